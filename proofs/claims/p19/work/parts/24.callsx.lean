/-! does and looks, where the arguments are bad: nothing changes, the answer says so -/
set_option maxHeartbeats 4000000 in
set_option maxRecDepth 100000 in
theorem mL_does0X (l : Launch) (hst : l.stackTraces = false) (D : va_G) (cI cZ cD : ClassId) (a : Nat → Nat) (sz : Nat) (u : Bt) (x y : Int32) (hbad : ¬ gSh (dat u) x y) : Met l yL_does wsL_does ({ frames := 8, cells := 1, slots := 6, locals := 127 } : Room) (va_Pc [.ref (a 0), .int (nI 0), .int x, .int y] (LQ D cI cZ cD (XU a cI cZ cD u) sz)) (va_Qi (fun (r : Int32) (w : Bt) => (dat w, r) = sSh (dat u) x y) (fun w t => XB D cI cZ cD (XU a cI cZ cD w) (va_A (XU a cI cZ cD u) sz) t) (va_A (XU a cI cZ cD u) sz)) 1 6 (va_A (XU a cI cZ cD u) sz) := by
  refine va_MetW (cc := cL_does) (maxL := 5) (ret := (some .int)) (hh := [(0, 92, 93, 30), (0, 92, 98, 33)]) (by decide +kernel) rfl ?_
  intro p e s m args below meth c s₁ B hml hv
  obtain ⟨rfl, hsz, ⟨hP, hK, hD0⟩, hE, hN⟩ := hv
  obtain ⟨sh, sw, ts, bi, it, tu, ne, pr, so, lo, tr, n, lp, lz, lu, lk, ld, lf, lb, lw⟩ := u
  have hP : va_P D vwCl (XW a cI cZ cD sh sw ts bi it tu ne pr so lo (nI tr) (nI n) lp lz lu lk ld lf lb lw) s.heap := hP
  have hD0 : va_D (fun _ => True) (XW a cI cZ cD sh sw ts bi it tu ne pr so lo (nI tr) (nI n) lp lz lu lk ld lf lb lw) := hD0
  have hx := B.exec
  have hb := B.bytes
  have hr := B.returns
  have hts := atoms_spec (ws := wsL_does) B.pre
  have hown : s.vm.findClass RL = some m.cls := findClass_of_methodNamed B.named
  have hlocks := B.notSynchronized
  subst hsz
  have hD := hD0.self (sz := s.heap.size)
  generalize hAe : va_A (XU a cI cZ cD (sh, sw, ts, bi, it, tu, ne, pr, so, lo, tr, n, lp, lz, lu, lk, ld, lf, lb, lw)) s.heap.size = A at hE ⊢
  have hAe : va_A (XW a cI cZ cD sh sw ts bi it tu ne pr so lo (nI tr) (nI n) lp lz lu lk ld lf lb lw) s.heap.size = A := hAe
  rw [hAe] at hD
  have hA : ∀ q : Nat, s.heap.size ≤ q → A q := fun q h => by rw [← hAe]; exact Or.inr h
  have hS : va_S A s.heap s.heap [] := va_S.rf
  have hl := lv_entry ([.ref (a 0), .int (nI 0), .int x, .int y]) (n := 5) (Nat.le_of_ble_eq_true rfl)
  rw [lg_entry_eq]
  generalize (lg_sl ([.ref (a 0), .int (nI 0), .int x, .int y]) ++ List.replicate (5 - (lg_sl ([.ref (a 0), .int (nI 0), .int x, .int y])).length) Slot.unset).toArray = ls at hl ⊢
  have hl : lv_has ls 5 [(0, .ref (a 0)), (1, .int (nI 0)), (2, .int x), (3, .int y)] := hl
  have htab := vx_table (x := yL_does) B (hts (.codeWith yL_does cL_does 5 (some .int) [(0, 92, 93, 30), (0, 92, 98, 33)]) (by decide +kernel))
  refine lv_iload_n hx hb dL_does_0 rfl (lv_at hl 1 rfl) ?_
  refine lv_if_ne (tgt := 13) hx hb dL_does_1 (by decide) (fun c => by first | exact absurd c (by decide) | exact absurd rfl c | exact (c (by decide)).elim) (fun c => ?_)
  refine lv_aload_n hx hb dL_does_4 rfl (lv_at hl 0 rfl) ?_
  refine lv_iload_n hx hb dL_does_5 rfl (lv_at hl 2 rfl) ?_
  refine lv_iload_n hx hb dL_does_6 rfl (lv_at hl 3 rfl) ?_
  refine vx_calli (vx_runV (As := [.int x, .int y]) (rest := []) ⟨hx, hb, hml, hown, hts⟩ (mX1_setShareX l hst D cI cZ cD a s.heap sh sw ts bi it tu ne pr so lo (nI tr) (nI n) lp lz lu lk ld lf lb lw x y (fun z => hbad z)) (cwV 2 hts gL_does_X1_setShare rfl rfl rfl (by decide +kernel) ⟨Nat.le_of_ble_eq_true rfl, Nat.le_of_ble_eq_true rfl⟩) ⟨xq_blind, va_recv hK hP (ci := 1) (q0 := 0) rfl rfl, xq_pre hP hK hD hE hS hA⟩ rfl rfl hl.1 rfl (lv_room (Nat.le_of_ble_eq_true rfl)) dL_does_7 ⟨Nat.le_of_ble_eq_true rfl, Nat.le_of_ble_eq_true rfl⟩) hS (fun q h1 h2 => absurd h2 (Nat.not_le.mpr h1)) (fun q h => hA q (Nat.le_trans hS.1 h)) (fun q h1 h2 => absurd h2 (Nat.not_le.mpr h1)) (fun E ce q9 u9 t9 H9 locs9 ht9 hvm9 hpx9 hB9 hz9 hk9 hS9 hce9 hcv9 hcl9 => ?_) (fun r u1 t H1 locs1 ht hvm hw hB hz1 hk1 hS1 => hw.elim)
  have hP9 : va_P D vwCl (XW a cI cZ cD sh sw ts bi it tu ne pr so lo (nI tr) (nI n) lp lz lu lk ld lf lb lw) H9 := hP.kept (fun k q hq => hk9 q.1 (hP k q hq).lt (Nat.not_le.mpr (hP k q hq).lt))
  rcases hB9 with ⟨rfl, h1⟩ | ⟨rfl, h1⟩
  · skip
    refine vx_catch (own := RL) (name := "java/lang/IllegalArgumentException") (E := "java/lang/IllegalArgumentException") hown [] ⟨0, 92, 93, 30⟩ [⟨0, 92, 98, 33⟩] (by rw [htab]; rfl) (fun z hz => absurd hz List.not_mem_nil) (by decide) (by decide) (hts (.classLink RL 30 "java/lang/IllegalArgumentException") (by decide +kernel)) (hE.words (.castable "java/lang/IllegalArgumentException" "java/lang/IllegalArgumentException") (by decide +kernel)) hce9 hcv9 hcl9 ?_
    refine lv_astore (lv' := [(4, .ref q9), (0, .ref (a 0)), (1, .int (nI 0)), (2, .int x), (3, .int y)]) hx hb dL_does_93 hl (by decide) rfl (fun ls hl => ?_)
    refine lv_ldc (v := -99999) hx hb hown (hts (.constant RL 32 (-99999)) (by decide +kernel)) dL_does_95 ?_
    exact W.iret hx hb hr (fun t ht hW => ⟨⟨_, (sh, sw, ts, bi, it, tu, ne, pr, so, lo, tr, n, lp, lz, lu, lk, ld, lf, lb, lw), rfl, (by unfold sSh; rw [if_neg hbad]) , by rw [ht]; exact hP9, va_K.moved hW.alike hK, hD⟩, hS9.F ht⟩) hS9.2.2 dL_does_97
  · skip
    refine vx_catch (own := RL) (name := "java/lang/IllegalStateException") (E := "java/lang/IllegalStateException") hown [⟨0, 92, 93, 30⟩] ⟨0, 92, 98, 33⟩ [] (by rw [htab]; rfl) (fun z hz => by obtain rfl := List.mem_singleton.mp hz; exact Or.inr ⟨by decide, "java/lang/IllegalArgumentException", hts (.classLink RL 30 "java/lang/IllegalArgumentException") (by decide +kernel), hN.2.2⟩) (by decide) (by decide) (hts (.classLink RL 33 "java/lang/IllegalStateException") (by decide +kernel)) (hE.words (.castable "java/lang/IllegalStateException" "java/lang/IllegalStateException") (by decide +kernel)) hce9 hcv9 hcl9 ?_
    refine lv_astore (lv' := [(4, .ref q9), (0, .ref (a 0)), (1, .int (nI 0)), (2, .int x), (3, .int y)]) hx hb dL_does_98 hl (by decide) rfl (fun ls hl => ?_)
    refine lv_ldc (v := -99999) hx hb hown (hts (.constant RL 32 (-99999)) (by decide +kernel)) dL_does_100 ?_
    exact W.iret hx hb hr (fun t ht hW => ⟨⟨_, (sh, sw, ts, bi, it, tu, ne, pr, so, lo, tr, n, lp, lz, lu, lk, ld, lf, lb, lw), rfl, (by unfold sSh; rw [if_neg hbad]) , by rw [ht]; exact hP9, va_K.moved hW.alike hK, hD⟩, hS9.F ht⟩) hS9.2.2 dL_does_102
theorem mL_does0 (l : Launch) (hst : l.stackTraces = false) (D : va_G) (cI cZ cD : ClassId) (a : Nat → Nat) (sz : Nat) (u : Bt) (x y : Int32) : Met l yL_does wsL_does ({ frames := 8, cells := 1, slots := 6, locals := 127 } : Room) (va_Pc [.ref (a 0), .int (nI 0), .int x, .int y] (LQ D cI cZ cD (XU a cI cZ cD u) sz)) (va_Qi (fun (r : Int32) (w : Bt) => (dat w, r) = sSh (dat u) x y) (fun w t => XB D cI cZ cD (XU a cI cZ cD w) (va_A (XU a cI cZ cD u) sz) t) (va_A (XU a cI cZ cD u) sz)) 1 6 (va_A (XU a cI cZ cD u) sz) := by
  by_cases hg : gSh (dat u) x y
  · skip
    obtain ⟨o, ho, rfl⟩ := inR_nI (n := 4) (by decide) hg.1
    exact mL_does0V l hst D cI cZ cD a sz u o y (by omega) hg
  · exact mL_does0X l hst D cI cZ cD a sz u x y hg
set_option maxHeartbeats 4000000 in
set_option maxRecDepth 100000 in
theorem mL_does1X (l : Launch) (hst : l.stackTraces = false) (D : va_G) (cI cZ cD : ClassId) (a : Nat → Nat) (sz : Nat) (u : Bt) (x y : Int32) (hbad : ¬ gSw x) : Met l yL_does wsL_does ({ frames := 8, cells := 1, slots := 6, locals := 127 } : Room) (va_Pc [.ref (a 0), .int (nI 1), .int x, .int y] (LQ D cI cZ cD (XU a cI cZ cD u) sz)) (va_Qi (fun (r : Int32) (w : Bt) => (dat w, r) = sSw (dat u) x y) (fun w t => XB D cI cZ cD (XU a cI cZ cD w) (va_A (XU a cI cZ cD u) sz) t) (va_A (XU a cI cZ cD u) sz)) 1 6 (va_A (XU a cI cZ cD u) sz) := by
  refine va_MetW (cc := cL_does) (maxL := 5) (ret := (some .int)) (hh := [(0, 92, 93, 30), (0, 92, 98, 33)]) (by decide +kernel) rfl ?_
  intro p e s m args below meth c s₁ B hml hv
  obtain ⟨rfl, hsz, ⟨hP, hK, hD0⟩, hE, hN⟩ := hv
  obtain ⟨sh, sw, ts, bi, it, tu, ne, pr, so, lo, tr, n, lp, lz, lu, lk, ld, lf, lb, lw⟩ := u
  have hP : va_P D vwCl (XW a cI cZ cD sh sw ts bi it tu ne pr so lo (nI tr) (nI n) lp lz lu lk ld lf lb lw) s.heap := hP
  have hD0 : va_D (fun _ => True) (XW a cI cZ cD sh sw ts bi it tu ne pr so lo (nI tr) (nI n) lp lz lu lk ld lf lb lw) := hD0
  have hx := B.exec
  have hb := B.bytes
  have hr := B.returns
  have hts := atoms_spec (ws := wsL_does) B.pre
  have hown : s.vm.findClass RL = some m.cls := findClass_of_methodNamed B.named
  have hlocks := B.notSynchronized
  subst hsz
  have hD := hD0.self (sz := s.heap.size)
  generalize hAe : va_A (XU a cI cZ cD (sh, sw, ts, bi, it, tu, ne, pr, so, lo, tr, n, lp, lz, lu, lk, ld, lf, lb, lw)) s.heap.size = A at hE ⊢
  have hAe : va_A (XW a cI cZ cD sh sw ts bi it tu ne pr so lo (nI tr) (nI n) lp lz lu lk ld lf lb lw) s.heap.size = A := hAe
  rw [hAe] at hD
  have hA : ∀ q : Nat, s.heap.size ≤ q → A q := fun q h => by rw [← hAe]; exact Or.inr h
  have hS : va_S A s.heap s.heap [] := va_S.rf
  have hl := lv_entry ([.ref (a 0), .int (nI 1), .int x, .int y]) (n := 5) (Nat.le_of_ble_eq_true rfl)
  rw [lg_entry_eq]
  generalize (lg_sl ([.ref (a 0), .int (nI 1), .int x, .int y]) ++ List.replicate (5 - (lg_sl ([.ref (a 0), .int (nI 1), .int x, .int y])).length) Slot.unset).toArray = ls at hl ⊢
  have hl : lv_has ls 5 [(0, .ref (a 0)), (1, .int (nI 1)), (2, .int x), (3, .int y)] := hl
  have htab := vx_table (x := yL_does) B (hts (.codeWith yL_does cL_does 5 (some .int) [(0, 92, 93, 30), (0, 92, 98, 33)]) (by decide +kernel))
  refine lv_iload_n hx hb dL_does_0 rfl (lv_at hl 1 rfl) ?_
  refine lv_if_ne (tgt := 13) hx hb dL_does_1 (by decide) (fun c => ?_) (fun c => by first | exact absurd c (by decide) | exact absurd rfl c | exact (c (by decide)).elim)
  refine lv_iload_n hx hb dL_does_13 rfl (lv_at hl 1 rfl) ?_
  refine lv_iconst (v := nI 1) hx hb dL_does_14 (by decide) ?_
  refine lv_icmp_ne (tgt := 44) hx hb dL_does_15 (by decide) (fun c => by first | exact absurd c (by decide) | exact absurd rfl c | exact (c (by decide)).elim) (fun c => ?_)
  refine lv_aload_n hx hb dL_does_18 rfl (lv_at hl 0 rfl) ?_
  refine lv_iload_n hx hb dL_does_19 rfl (lv_at hl 2 rfl) ?_
  refine lv_iload_n hx hb dL_does_20 rfl (lv_at hl 3 rfl) ?_
  refine lv_iconst (v := nI 1) hx hb dL_does_21 (by decide) ?_
  refine lv_icmp_ne (tgt := 29) hx hb dL_does_22 (by decide) (fun cy => ?_) (fun cy => ?_)
  · skip
    refine lv_iconst (v := nI 0) hx hb dL_does_29 (by decide) ?_
    refine vx_calli (vx_runV (As := [.int x, .int (nI 0)]) (rest := []) ⟨hx, hb, hml, hown, hts⟩ (mX1_setSwitchX l hst D cI cZ cD a s.heap sh sw ts bi it tu ne pr so lo (nI tr) (nI n) lp lz lu lk ld lf lb lw x (nI 0) (fun z => hbad z)) (cwV 2 hts gL_does_X1_setSwitch rfl rfl rfl (by decide +kernel) ⟨Nat.le_of_ble_eq_true rfl, Nat.le_of_ble_eq_true rfl⟩) ⟨xq_blind, va_recv hK hP (ci := 1) (q0 := 0) rfl rfl, xq_pre hP hK hD hE hS hA⟩ rfl rfl hl.1 rfl (lv_room (Nat.le_of_ble_eq_true rfl)) dL_does_30 ⟨Nat.le_of_ble_eq_true rfl, Nat.le_of_ble_eq_true rfl⟩) hS (fun q h1 h2 => absurd h2 (Nat.not_le.mpr h1)) (fun q h => hA q (Nat.le_trans hS.1 h)) (fun q h1 h2 => absurd h2 (Nat.not_le.mpr h1)) (fun E ce q9 u9 t9 H9 locs9 ht9 hvm9 hpx9 hB9 hz9 hk9 hS9 hce9 hcv9 hcl9 => ?_) (fun r u1 t H1 locs1 ht hvm hw hB hz1 hk1 hS1 => hw.elim)
    have hP9 : va_P D vwCl (XW a cI cZ cD sh sw ts bi it tu ne pr so lo (nI tr) (nI n) lp lz lu lk ld lf lb lw) H9 := hP.kept (fun k q hq => hk9 q.1 (hP k q hq).lt (Nat.not_le.mpr (hP k q hq).lt))
    obtain rfl := hB9
    refine vx_catch (own := RL) (name := "java/lang/IllegalArgumentException") (E := "java/lang/IllegalArgumentException") hown [] ⟨0, 92, 93, 30⟩ [⟨0, 92, 98, 33⟩] (by rw [htab]; rfl) (fun z hz => absurd hz List.not_mem_nil) (by decide) (by decide) (hts (.classLink RL 30 "java/lang/IllegalArgumentException") (by decide +kernel)) (hE.words (.castable "java/lang/IllegalArgumentException" "java/lang/IllegalArgumentException") (by decide +kernel)) hce9 hcv9 hcl9 ?_
    refine lv_astore (lv' := [(4, .ref q9), (0, .ref (a 0)), (1, .int (nI 1)), (2, .int x), (3, .int y)]) hx hb dL_does_93 hl (by decide) rfl (fun ls hl => ?_)
    refine lv_ldc (v := -99999) hx hb hown (hts (.constant RL 32 (-99999)) (by decide +kernel)) dL_does_95 ?_
    exact W.iret hx hb hr (fun t ht hW => ⟨⟨_, (sh, sw, ts, bi, it, tu, ne, pr, so, lo, tr, n, lp, lz, lu, lk, ld, lf, lb, lw), rfl, (by unfold sSw; rw [if_neg hbad]) , by rw [ht]; exact hP9, va_K.moved hW.alike hK, hD⟩, hS9.F ht⟩) hS9.2.2 dL_does_97
  · skip
    refine lv_iconst (v := nI 1) hx hb dL_does_25 (by decide) ?_
    refine lv_goto (tgt := 30) hx hb dL_does_26 (by decide) ?_
    refine vx_calli (vx_runV (As := [.int x, .int (nI 1)]) (rest := []) ⟨hx, hb, hml, hown, hts⟩ (mX1_setSwitchX l hst D cI cZ cD a s.heap sh sw ts bi it tu ne pr so lo (nI tr) (nI n) lp lz lu lk ld lf lb lw x (nI 1) (fun z => hbad z)) (cwV 2 hts gL_does_X1_setSwitch rfl rfl rfl (by decide +kernel) ⟨Nat.le_of_ble_eq_true rfl, Nat.le_of_ble_eq_true rfl⟩) ⟨xq_blind, va_recv hK hP (ci := 1) (q0 := 0) rfl rfl, xq_pre hP hK hD hE hS hA⟩ rfl rfl hl.1 rfl (lv_room (Nat.le_of_ble_eq_true rfl)) dL_does_30 ⟨Nat.le_of_ble_eq_true rfl, Nat.le_of_ble_eq_true rfl⟩) hS (fun q h1 h2 => absurd h2 (Nat.not_le.mpr h1)) (fun q h => hA q (Nat.le_trans hS.1 h)) (fun q h1 h2 => absurd h2 (Nat.not_le.mpr h1)) (fun E ce q9 u9 t9 H9 locs9 ht9 hvm9 hpx9 hB9 hz9 hk9 hS9 hce9 hcv9 hcl9 => ?_) (fun r u1 t H1 locs1 ht hvm hw hB hz1 hk1 hS1 => hw.elim)
    have hP9 : va_P D vwCl (XW a cI cZ cD sh sw ts bi it tu ne pr so lo (nI tr) (nI n) lp lz lu lk ld lf lb lw) H9 := hP.kept (fun k q hq => hk9 q.1 (hP k q hq).lt (Nat.not_le.mpr (hP k q hq).lt))
    obtain rfl := hB9
    refine vx_catch (own := RL) (name := "java/lang/IllegalArgumentException") (E := "java/lang/IllegalArgumentException") hown [] ⟨0, 92, 93, 30⟩ [⟨0, 92, 98, 33⟩] (by rw [htab]; rfl) (fun z hz => absurd hz List.not_mem_nil) (by decide) (by decide) (hts (.classLink RL 30 "java/lang/IllegalArgumentException") (by decide +kernel)) (hE.words (.castable "java/lang/IllegalArgumentException" "java/lang/IllegalArgumentException") (by decide +kernel)) hce9 hcv9 hcl9 ?_
    refine lv_astore (lv' := [(4, .ref q9), (0, .ref (a 0)), (1, .int (nI 1)), (2, .int x), (3, .int y)]) hx hb dL_does_93 hl (by decide) rfl (fun ls hl => ?_)
    refine lv_ldc (v := -99999) hx hb hown (hts (.constant RL 32 (-99999)) (by decide +kernel)) dL_does_95 ?_
    exact W.iret hx hb hr (fun t ht hW => ⟨⟨_, (sh, sw, ts, bi, it, tu, ne, pr, so, lo, tr, n, lp, lz, lu, lk, ld, lf, lb, lw), rfl, (by unfold sSw; rw [if_neg hbad]) , by rw [ht]; exact hP9, va_K.moved hW.alike hK, hD⟩, hS9.F ht⟩) hS9.2.2 dL_does_97
theorem mL_does1 (l : Launch) (hst : l.stackTraces = false) (D : va_G) (cI cZ cD : ClassId) (a : Nat → Nat) (sz : Nat) (u : Bt) (x y : Int32) (hok : Ok (dat u)) : Met l yL_does wsL_does ({ frames := 8, cells := 1, slots := 6, locals := 127 } : Room) (va_Pc [.ref (a 0), .int (nI 1), .int x, .int y] (LQ D cI cZ cD (XU a cI cZ cD u) sz)) (va_Qi (fun (r : Int32) (w : Bt) => (dat w, r) = sSw (dat u) x y) (fun w t => XB D cI cZ cD (XU a cI cZ cD w) (va_A (XU a cI cZ cD u) sz) t) (va_A (XU a cI cZ cD u) sz)) 1 6 (va_A (XU a cI cZ cD u) sz) := by
  by_cases hg : gSw x
  · skip
    obtain ⟨o, ho, rfl⟩ := inR_nI (n := 4) (by decide) hg
    exact mL_does1V l hst D cI cZ cD a sz u o y (by omega) hok hg
  · exact mL_does1X l hst D cI cZ cD a sz u x y hg
set_option maxHeartbeats 4000000 in
set_option maxRecDepth 100000 in
theorem mL_does2X (l : Launch) (hst : l.stackTraces = false) (D : va_G) (cI cZ cD : ClassId) (a : Nat → Nat) (sz : Nat) (u : Bt) (x y : Int32) (hbad : ¬ gTl x y) : Met l yL_does wsL_does ({ frames := 8, cells := 1, slots := 6, locals := 127 } : Room) (va_Pc [.ref (a 0), .int (nI 2), .int x, .int y] (LQ D cI cZ cD (XU a cI cZ cD u) sz)) (va_Qi (fun (r : Int32) (w : Bt) => (dat w, r) = sTl (dat u) x y) (fun w t => XB D cI cZ cD (XU a cI cZ cD w) (va_A (XU a cI cZ cD u) sz) t) (va_A (XU a cI cZ cD u) sz)) 1 6 (va_A (XU a cI cZ cD u) sz) := by
  refine va_MetW (cc := cL_does) (maxL := 5) (ret := (some .int)) (hh := [(0, 92, 93, 30), (0, 92, 98, 33)]) (by decide +kernel) rfl ?_
  intro p e s m args below meth c s₁ B hml hv
  obtain ⟨rfl, hsz, ⟨hP, hK, hD0⟩, hE, hN⟩ := hv
  obtain ⟨sh, sw, ts, bi, it, tu, ne, pr, so, lo, tr, n, lp, lz, lu, lk, ld, lf, lb, lw⟩ := u
  have hP : va_P D vwCl (XW a cI cZ cD sh sw ts bi it tu ne pr so lo (nI tr) (nI n) lp lz lu lk ld lf lb lw) s.heap := hP
  have hD0 : va_D (fun _ => True) (XW a cI cZ cD sh sw ts bi it tu ne pr so lo (nI tr) (nI n) lp lz lu lk ld lf lb lw) := hD0
  have hx := B.exec
  have hb := B.bytes
  have hr := B.returns
  have hts := atoms_spec (ws := wsL_does) B.pre
  have hown : s.vm.findClass RL = some m.cls := findClass_of_methodNamed B.named
  have hlocks := B.notSynchronized
  subst hsz
  have hD := hD0.self (sz := s.heap.size)
  generalize hAe : va_A (XU a cI cZ cD (sh, sw, ts, bi, it, tu, ne, pr, so, lo, tr, n, lp, lz, lu, lk, ld, lf, lb, lw)) s.heap.size = A at hE ⊢
  have hAe : va_A (XW a cI cZ cD sh sw ts bi it tu ne pr so lo (nI tr) (nI n) lp lz lu lk ld lf lb lw) s.heap.size = A := hAe
  rw [hAe] at hD
  have hA : ∀ q : Nat, s.heap.size ≤ q → A q := fun q h => by rw [← hAe]; exact Or.inr h
  have hS : va_S A s.heap s.heap [] := va_S.rf
  have hl := lv_entry ([.ref (a 0), .int (nI 2), .int x, .int y]) (n := 5) (Nat.le_of_ble_eq_true rfl)
  rw [lg_entry_eq]
  generalize (lg_sl ([.ref (a 0), .int (nI 2), .int x, .int y]) ++ List.replicate (5 - (lg_sl ([.ref (a 0), .int (nI 2), .int x, .int y])).length) Slot.unset).toArray = ls at hl ⊢
  have hl : lv_has ls 5 [(0, .ref (a 0)), (1, .int (nI 2)), (2, .int x), (3, .int y)] := hl
  have htab := vx_table (x := yL_does) B (hts (.codeWith yL_does cL_does 5 (some .int) [(0, 92, 93, 30), (0, 92, 98, 33)]) (by decide +kernel))
  refine lv_iload_n hx hb dL_does_0 rfl (lv_at hl 1 rfl) ?_
  refine lv_if_ne (tgt := 13) hx hb dL_does_1 (by decide) (fun c => ?_) (fun c => by first | exact absurd c (by decide) | exact absurd rfl c | exact (c (by decide)).elim)
  refine lv_iload_n hx hb dL_does_13 rfl (lv_at hl 1 rfl) ?_
  refine lv_iconst (v := nI 1) hx hb dL_does_14 (by decide) ?_
  refine lv_icmp_ne (tgt := 44) hx hb dL_does_15 (by decide) (fun c => ?_) (fun c => by first | exact absurd c (by decide) | exact absurd rfl c | exact (c (by decide)).elim)
  refine lv_iload_n hx hb dL_does_44 rfl (lv_at hl 1 rfl) ?_
  refine lv_iconst (v := nI 2) hx hb dL_does_45 (by decide) ?_
  refine lv_icmp_ne (tgt := 66) hx hb dL_does_46 (by decide) (fun c => by first | exact absurd c (by decide) | exact absurd rfl c | exact (c (by decide)).elim) (fun c => ?_)
  refine lv_aload_n hx hb dL_does_49 rfl (lv_at hl 0 rfl) ?_
  refine lv_iload_n hx hb dL_does_50 rfl (lv_at hl 2 rfl) ?_
  refine lv_iload_n hx hb dL_does_51 rfl (lv_at hl 3 rfl) ?_
  refine vx_calli (vx_runV (As := [.int x, .int y]) (rest := []) ⟨hx, hb, hml, hown, hts⟩ (mX1_tellX l hst D cI cZ cD a s.heap sh sw ts bi it tu ne pr so lo (nI tr) (nI n) lp lz lu lk ld lf lb lw x y (fun z => hbad z)) (cwV 2 hts gL_does_X1_tell rfl rfl rfl (by decide +kernel) ⟨Nat.le_of_ble_eq_true rfl, Nat.le_of_ble_eq_true rfl⟩) ⟨xq_blind, va_recv hK hP (ci := 1) (q0 := 0) rfl rfl, xq_pre hP hK hD hE hS hA⟩ rfl rfl hl.1 rfl (lv_room (Nat.le_of_ble_eq_true rfl)) dL_does_52 ⟨Nat.le_of_ble_eq_true rfl, Nat.le_of_ble_eq_true rfl⟩) hS (fun q h1 h2 => absurd h2 (Nat.not_le.mpr h1)) (fun q h => hA q (Nat.le_trans hS.1 h)) (fun q h1 h2 => absurd h2 (Nat.not_le.mpr h1)) (fun E ce q9 u9 t9 H9 locs9 ht9 hvm9 hpx9 hB9 hz9 hk9 hS9 hce9 hcv9 hcl9 => ?_) (fun r u1 t H1 locs1 ht hvm hw hB hz1 hk1 hS1 => hw.elim)
  have hP9 : va_P D vwCl (XW a cI cZ cD sh sw ts bi it tu ne pr so lo (nI tr) (nI n) lp lz lu lk ld lf lb lw) H9 := hP.kept (fun k q hq => hk9 q.1 (hP k q hq).lt (Nat.not_le.mpr (hP k q hq).lt))
  obtain rfl := hB9
  refine vx_catch (own := RL) (name := "java/lang/IllegalArgumentException") (E := "java/lang/IllegalArgumentException") hown [] ⟨0, 92, 93, 30⟩ [⟨0, 92, 98, 33⟩] (by rw [htab]; rfl) (fun z hz => absurd hz List.not_mem_nil) (by decide) (by decide) (hts (.classLink RL 30 "java/lang/IllegalArgumentException") (by decide +kernel)) (hE.words (.castable "java/lang/IllegalArgumentException" "java/lang/IllegalArgumentException") (by decide +kernel)) hce9 hcv9 hcl9 ?_
  refine lv_astore (lv' := [(4, .ref q9), (0, .ref (a 0)), (1, .int (nI 2)), (2, .int x), (3, .int y)]) hx hb dL_does_93 hl (by decide) rfl (fun ls hl => ?_)
  refine lv_ldc (v := -99999) hx hb hown (hts (.constant RL 32 (-99999)) (by decide +kernel)) dL_does_95 ?_
  exact W.iret hx hb hr (fun t ht hW => ⟨⟨_, (sh, sw, ts, bi, it, tu, ne, pr, so, lo, tr, n, lp, lz, lu, lk, ld, lf, lb, lw), rfl, (by unfold sTl; rw [if_neg hbad]) , by rw [ht]; exact hP9, va_K.moved hW.alike hK, hD⟩, hS9.F ht⟩) hS9.2.2 dL_does_97
theorem mL_does2 (l : Launch) (hst : l.stackTraces = false) (D : va_G) (cI cZ cD : ClassId) (a : Nat → Nat) (sz : Nat) (u : Bt) (x y : Int32) (hok : Ok (dat u)) : Met l yL_does wsL_does ({ frames := 8, cells := 1, slots := 6, locals := 127 } : Room) (va_Pc [.ref (a 0), .int (nI 2), .int x, .int y] (LQ D cI cZ cD (XU a cI cZ cD u) sz)) (va_Qi (fun (r : Int32) (w : Bt) => (dat w, r) = sTl (dat u) x y) (fun w t => XB D cI cZ cD (XU a cI cZ cD w) (va_A (XU a cI cZ cD u) sz) t) (va_A (XU a cI cZ cD u) sz)) 1 6 (va_A (XU a cI cZ cD u) sz) := by
  by_cases hg : gTl x y
  · skip
    obtain ⟨o, ho, rfl⟩ := inR_nI (n := 4) (by decide) hg.1
    exact mL_does2V l hst D cI cZ cD a sz u o y (by omega) hok hg
  · exact mL_does2X l hst D cI cZ cD a sz u x y hg
set_option maxHeartbeats 4000000 in
set_option maxRecDepth 100000 in
theorem mL_does3X (l : Launch) (hst : l.stackTraces = false) (D : va_G) (cI cZ cD : ClassId) (a : Nat → Nat) (sz : Nat) (u : Bt) (x y : Int32) (hok : Ok (dat u)) (hbad : ¬ gCl (dat u) x) : Met l yL_does wsL_does ({ frames := 8, cells := 1, slots := 6, locals := 127 } : Room) (va_Pc [.ref (a 0), .int (nI 3), .int x, .int y] (LQ D cI cZ cD (XU a cI cZ cD u) sz)) (va_Qi (fun (r : Int32) (w : Bt) => (dat w, r) = sCl (dat u) x) (fun w t => XB D cI cZ cD (XU a cI cZ cD w) (va_A (XU a cI cZ cD u) sz) t) (va_A (XU a cI cZ cD u) sz)) 1 6 (va_A (XU a cI cZ cD u) sz) := by
  refine va_MetW (cc := cL_does) (maxL := 5) (ret := (some .int)) (hh := [(0, 92, 93, 30), (0, 92, 98, 33)]) (by decide +kernel) rfl ?_
  intro p e s m args below meth c s₁ B hml hv
  obtain ⟨rfl, hsz, ⟨hP, hK, hD0⟩, hE, hN⟩ := hv
  obtain ⟨sh, sw, ts, bi, it, tu, ne, pr, so, lo, tr, n, lp, lz, lu, lk, ld, lf, lb, lw⟩ := u
  have hP : va_P D vwCl (XW a cI cZ cD sh sw ts bi it tu ne pr so lo (nI tr) (nI n) lp lz lu lk ld lf lb lw) s.heap := hP
  have hD0 : va_D (fun _ => True) (XW a cI cZ cD sh sw ts bi it tu ne pr so lo (nI tr) (nI n) lp lz lu lk ld lf lb lw) := hD0
  have hx := B.exec
  have hb := B.bytes
  have hr := B.returns
  have hts := atoms_spec (ws := wsL_does) B.pre
  have hown : s.vm.findClass RL = some m.cls := findClass_of_methodNamed B.named
  have hlocks := B.notSynchronized
  subst hsz
  have hD := hD0.self (sz := s.heap.size)
  generalize hAe : va_A (XU a cI cZ cD (sh, sw, ts, bi, it, tu, ne, pr, so, lo, tr, n, lp, lz, lu, lk, ld, lf, lb, lw)) s.heap.size = A at hE ⊢
  have hAe : va_A (XW a cI cZ cD sh sw ts bi it tu ne pr so lo (nI tr) (nI n) lp lz lu lk ld lf lb lw) s.heap.size = A := hAe
  rw [hAe] at hD
  have hA : ∀ q : Nat, s.heap.size ≤ q → A q := fun q h => by rw [← hAe]; exact Or.inr h
  have hS : va_S A s.heap s.heap [] := va_S.rf
  have hl := lv_entry ([.ref (a 0), .int (nI 3), .int x, .int y]) (n := 5) (Nat.le_of_ble_eq_true rfl)
  rw [lg_entry_eq]
  generalize (lg_sl ([.ref (a 0), .int (nI 3), .int x, .int y]) ++ List.replicate (5 - (lg_sl ([.ref (a 0), .int (nI 3), .int x, .int y])).length) Slot.unset).toArray = ls at hl ⊢
  have hl : lv_has ls 5 [(0, .ref (a 0)), (1, .int (nI 3)), (2, .int x), (3, .int y)] := hl
  have htab := vx_table (x := yL_does) B (hts (.codeWith yL_does cL_does 5 (some .int) [(0, 92, 93, 30), (0, 92, 98, 33)]) (by decide +kernel))
  refine lv_iload_n hx hb dL_does_0 rfl (lv_at hl 1 rfl) ?_
  refine lv_if_ne (tgt := 13) hx hb dL_does_1 (by decide) (fun c => ?_) (fun c => by first | exact absurd c (by decide) | exact absurd rfl c | exact (c (by decide)).elim)
  refine lv_iload_n hx hb dL_does_13 rfl (lv_at hl 1 rfl) ?_
  refine lv_iconst (v := nI 1) hx hb dL_does_14 (by decide) ?_
  refine lv_icmp_ne (tgt := 44) hx hb dL_does_15 (by decide) (fun c => ?_) (fun c => by first | exact absurd c (by decide) | exact absurd rfl c | exact (c (by decide)).elim)
  refine lv_iload_n hx hb dL_does_44 rfl (lv_at hl 1 rfl) ?_
  refine lv_iconst (v := nI 2) hx hb dL_does_45 (by decide) ?_
  refine lv_icmp_ne (tgt := 66) hx hb dL_does_46 (by decide) (fun c => ?_) (fun c => by first | exact absurd c (by decide) | exact absurd rfl c | exact (c (by decide)).elim)
  refine lv_iload_n hx hb dL_does_66 rfl (lv_at hl 1 rfl) ?_
  refine lv_iconst (v := nI 3) hx hb dL_does_67 (by decide) ?_
  refine lv_icmp_ne (tgt := 87) hx hb dL_does_68 (by decide) (fun c => by first | exact absurd c (by decide) | exact absurd rfl c | exact (c (by decide)).elim) (fun c => ?_)
  refine lv_aload_n hx hb dL_does_71 rfl (lv_at hl 0 rfl) ?_
  refine lv_iload_n hx hb dL_does_72 rfl (lv_at hl 2 rfl) ?_
  have hn : n ≤ 60 := hok.1
  refine vx_calli (vx_runV (As := [.int x]) (rest := []) ⟨hx, hb, hml, hown, hts⟩ (mX1_closeX l hst D cI cZ cD a s.heap sh sw ts bi it tu ne pr so lo (nI tr) lp lz lu lk ld lf lb lw n hn x (fun z => hbad z)) (cwV 1 hts gL_does_X1_close rfl rfl rfl (by decide +kernel) ⟨Nat.le_of_ble_eq_true rfl, Nat.le_of_ble_eq_true rfl⟩) ⟨xq_blind, va_recv hK hP (ci := 1) (q0 := 0) rfl rfl, xq_pre hP hK hD hE hS hA⟩ rfl rfl hl.1 rfl (lv_room (Nat.le_of_ble_eq_true rfl)) dL_does_73 ⟨Nat.le_of_ble_eq_true rfl, Nat.le_of_ble_eq_true rfl⟩) hS (fun q h1 h2 => absurd h2 (Nat.not_le.mpr h1)) (fun q h => hA q (Nat.le_trans hS.1 h)) (fun q h1 h2 => absurd h2 (Nat.not_le.mpr h1)) (fun E ce q9 u9 t9 H9 locs9 ht9 hvm9 hpx9 hB9 hz9 hk9 hS9 hce9 hcv9 hcl9 => ?_) (fun r u1 t H1 locs1 ht hvm hw hB hz1 hk1 hS1 => hw.elim)
  have hP9 : va_P D vwCl (XW a cI cZ cD sh sw ts bi it tu ne pr so lo (nI tr) (nI n) lp lz lu lk ld lf lb lw) H9 := hP.kept (fun k q hq => hk9 q.1 (hP k q hq).lt (Nat.not_le.mpr (hP k q hq).lt))
  rcases hB9 with ⟨rfl, h1⟩ | ⟨rfl, h1⟩
  · skip
    refine vx_catch (own := RL) (name := "java/lang/IllegalArgumentException") (E := "java/lang/IllegalArgumentException") hown [] ⟨0, 92, 93, 30⟩ [⟨0, 92, 98, 33⟩] (by rw [htab]; rfl) (fun z hz => absurd hz List.not_mem_nil) (by decide) (by decide) (hts (.classLink RL 30 "java/lang/IllegalArgumentException") (by decide +kernel)) (hE.words (.castable "java/lang/IllegalArgumentException" "java/lang/IllegalArgumentException") (by decide +kernel)) hce9 hcv9 hcl9 ?_
    refine lv_astore (lv' := [(4, .ref q9), (0, .ref (a 0)), (1, .int (nI 3)), (2, .int x), (3, .int y)]) hx hb dL_does_93 hl (by decide) rfl (fun ls hl => ?_)
    refine lv_ldc (v := -99999) hx hb hown (hts (.constant RL 32 (-99999)) (by decide +kernel)) dL_does_95 ?_
    exact W.iret hx hb hr (fun t ht hW => ⟨⟨_, (sh, sw, ts, bi, it, tu, ne, pr, so, lo, tr, n, lp, lz, lu, lk, ld, lf, lb, lw), rfl, (by unfold sCl; rw [if_neg hbad]) , by rw [ht]; exact hP9, va_K.moved hW.alike hK, hD⟩, hS9.F ht⟩) hS9.2.2 dL_does_97
  · skip
    refine vx_catch (own := RL) (name := "java/lang/IllegalStateException") (E := "java/lang/IllegalStateException") hown [⟨0, 92, 93, 30⟩] ⟨0, 92, 98, 33⟩ [] (by rw [htab]; rfl) (fun z hz => by obtain rfl := List.mem_singleton.mp hz; exact Or.inr ⟨by decide, "java/lang/IllegalArgumentException", hts (.classLink RL 30 "java/lang/IllegalArgumentException") (by decide +kernel), hN.2.2⟩) (by decide) (by decide) (hts (.classLink RL 33 "java/lang/IllegalStateException") (by decide +kernel)) (hE.words (.castable "java/lang/IllegalStateException" "java/lang/IllegalStateException") (by decide +kernel)) hce9 hcv9 hcl9 ?_
    refine lv_astore (lv' := [(4, .ref q9), (0, .ref (a 0)), (1, .int (nI 3)), (2, .int x), (3, .int y)]) hx hb dL_does_98 hl (by decide) rfl (fun ls hl => ?_)
    refine lv_ldc (v := -99999) hx hb hown (hts (.constant RL 32 (-99999)) (by decide +kernel)) dL_does_100 ?_
    exact W.iret hx hb hr (fun t ht hW => ⟨⟨_, (sh, sw, ts, bi, it, tu, ne, pr, so, lo, tr, n, lp, lz, lu, lk, ld, lf, lb, lw), rfl, (by unfold sCl; rw [if_neg hbad]) , by rw [ht]; exact hP9, va_K.moved hW.alike hK, hD⟩, hS9.F ht⟩) hS9.2.2 dL_does_102
theorem mL_does3 (l : Launch) (hst : l.stackTraces = false) (D : va_G) (cI cZ cD : ClassId) (a : Nat → Nat) (sz : Nat) (u : Bt) (x y : Int32) (hok : Ok (dat u)) : MetD lw_cs l yL_does wsL_does ({ frames := 8, cells := 1, slots := 6, locals := 127 } : Room) (va_Pc [.ref (a 0), .int (nI 3), .int x, .int y] (LQ D cI cZ cD (XU a cI cZ cD u) sz)) (va_Qi (fun (r : Int32) (w : Bt) => (dat w, r) = sCl (dat u) x) (fun w t => XB D cI cZ cD (XU a cI cZ cD w) (va_A (XU a cI cZ cD u) sz) t) (va_A (XU a cI cZ cD u) sz)) 1 6 (va_A (XU a cI cZ cD u) sz) := by
  by_cases hg : gCl (dat u) x
  · skip
    exact mL_does3V l hst D cI cZ cD a sz u x y hok hg
  · exact MetD.of_met (mL_does3X l hst D cI cZ cD a sz u x y hok hg)
set_option maxHeartbeats 4000000 in
set_option maxRecDepth 100000 in
theorem mL_looks0X (l : Launch) (hst : l.stackTraces = false) (D : va_G) (cI cZ cD : ClassId) (a : Nat → Nat) (sz : Nat) (u : Bt) (x y z : Int32) (hbad : ¬ gPr x) : Met l yL_looks wsL_looks ({ frames := 9, cells := 1, slots := 6, locals := 147 } : Room) (va_Pc [.ref (a 0), .int (nI 0), .int x, .int y, .int z] (LQ D cI cZ cD (XU a cI cZ cD u) sz)) (va_Qd (fun (r : UInt64) (w : Bt) => (dat w, dt r) = sPr (dat u) x) (fun w t => XB D cI cZ cD (XU a cI cZ cD w) (va_A (XU a cI cZ cD u) sz) t) (va_A (XU a cI cZ cD u) sz)) 1 6 (va_A (XU a cI cZ cD u) sz) := by
  refine va_MetW (cc := cL_looks) (maxL := 6) (ret := (some .double)) (hh := [(0, 89, 90, 59), (0, 89, 96, 30), (0, 89, 102, 33)]) (by decide +kernel) rfl ?_
  intro p e s m args below meth c s₁ B hml hv
  obtain ⟨rfl, hsz, ⟨hP, hK, hD0⟩, hE, hN⟩ := hv
  obtain ⟨sh, sw, ts, bi, it, tu, ne, pr, so, lo, tr, n, lp, lz, lu, lk, ld, lf, lb, lw⟩ := u
  have hP : va_P D vwCl (XW a cI cZ cD sh sw ts bi it tu ne pr so lo (nI tr) (nI n) lp lz lu lk ld lf lb lw) s.heap := hP
  have hD0 : va_D (fun _ => True) (XW a cI cZ cD sh sw ts bi it tu ne pr so lo (nI tr) (nI n) lp lz lu lk ld lf lb lw) := hD0
  have hx := B.exec
  have hb := B.bytes
  have hr := B.returns
  have hts := atoms_spec (ws := wsL_looks) B.pre
  have hown : s.vm.findClass RL = some m.cls := findClass_of_methodNamed B.named
  have hlocks := B.notSynchronized
  subst hsz
  have hD := hD0.self (sz := s.heap.size)
  generalize hAe : va_A (XU a cI cZ cD (sh, sw, ts, bi, it, tu, ne, pr, so, lo, tr, n, lp, lz, lu, lk, ld, lf, lb, lw)) s.heap.size = A at hE ⊢
  have hAe : va_A (XW a cI cZ cD sh sw ts bi it tu ne pr so lo (nI tr) (nI n) lp lz lu lk ld lf lb lw) s.heap.size = A := hAe
  rw [hAe] at hD
  have hA : ∀ q : Nat, s.heap.size ≤ q → A q := fun q h => by rw [← hAe]; exact Or.inr h
  have hS : va_S A s.heap s.heap [] := va_S.rf
  have hl := lv_entry ([.ref (a 0), .int (nI 0), .int x, .int y, .int z]) (n := 6) (Nat.le_of_ble_eq_true rfl)
  rw [lg_entry_eq]
  generalize (lg_sl ([.ref (a 0), .int (nI 0), .int x, .int y, .int z]) ++ List.replicate (6 - (lg_sl ([.ref (a 0), .int (nI 0), .int x, .int y, .int z])).length) Slot.unset).toArray = ls at hl ⊢
  have hl : lv_has ls 6 [(0, .ref (a 0)), (1, .int (nI 0)), (2, .int x), (3, .int y), (4, .int z)] := hl
  have htab := vx_table (x := yL_looks) B (hts (.codeWith yL_looks cL_looks 6 (some .double) [(0, 89, 90, 59), (0, 89, 96, 30), (0, 89, 102, 33)]) (by decide +kernel))
  refine lv_iload_n hx hb dL_looks_0 rfl (lv_at hl 1 rfl) ?_
  refine lv_if_ne (tgt := 12) hx hb dL_looks_1 (by decide) (fun c => by first | exact absurd c (by decide) | exact absurd rfl c | exact (c (by decide)).elim) (fun c => ?_)
  refine lv_aload_n hx hb dL_looks_4 rfl (lv_at hl 0 rfl) ?_
  refine lv_iload_n hx hb dL_looks_5 rfl (lv_at hl 2 rfl) ?_
  refine vx_calld (vx_runV (As := [.int x]) (rest := []) ⟨hx, hb, hml, hown, hts⟩ (mX1_setPriceX l hst D cI cZ cD a s.heap sh sw ts bi it tu ne pr so lo (nI tr) (nI n) lp lz lu lk ld lf lb lw x (fun z => hbad z)) (cwV 1 hts gL_looks_X1_setPrice rfl rfl rfl (by decide +kernel) ⟨Nat.le_of_ble_eq_true rfl, Nat.le_of_ble_eq_true rfl⟩) ⟨xq_blind, va_recv hK hP (ci := 1) (q0 := 0) rfl rfl, xq_pre hP hK hD hE hS hA⟩ rfl rfl hl.1 rfl (lv_room (Nat.le_of_ble_eq_true rfl)) dL_looks_6 ⟨Nat.le_of_ble_eq_true rfl, Nat.le_of_ble_eq_true rfl⟩) hS (fun q h1 h2 => absurd h2 (Nat.not_le.mpr h1)) (fun q h => hA q (Nat.le_trans hS.1 h)) (fun q h1 h2 => absurd h2 (Nat.not_le.mpr h1)) (fun E ce q9 u9 t9 H9 locs9 ht9 hvm9 hpx9 hB9 hz9 hk9 hS9 hce9 hcv9 hcl9 => ?_) (fun r u1 t H1 locs1 ht hvm hw hB hz1 hk1 hS1 => hw.elim)
  have hP9 : va_P D vwCl (XW a cI cZ cD sh sw ts bi it tu ne pr so lo (nI tr) (nI n) lp lz lu lk ld lf lb lw) H9 := hP.kept (fun k q hq => hk9 q.1 (hP k q hq).lt (Nat.not_le.mpr (hP k q hq).lt))
  obtain rfl := hB9
  refine vx_catch (own := RL) (name := "java/lang/IllegalArgumentException") (E := "java/lang/IllegalArgumentException") hown [⟨0, 89, 90, 59⟩] ⟨0, 89, 96, 30⟩ [⟨0, 89, 102, 33⟩] (by rw [htab]; rfl) (fun z hz => by obtain rfl := List.mem_singleton.mp hz; exact Or.inr ⟨by decide, "java/lang/IndexOutOfBoundsException", hts (.classLink RL 59 "java/lang/IndexOutOfBoundsException") (by decide +kernel), hN.1⟩) (by decide) (by decide) (hts (.classLink RL 30 "java/lang/IllegalArgumentException") (by decide +kernel)) (hE.words (.castable "java/lang/IllegalArgumentException" "java/lang/IllegalArgumentException") (by decide +kernel)) hce9 hcv9 hcl9 ?_
  refine lv_astore (lv' := [(5, .ref q9), (0, .ref (a 0)), (1, .int (nI 0)), (2, .int x), (3, .int y), (4, .int z)]) hx hb dL_looks_96 hl (by decide) rfl (fun ls hl => ?_)
  refine lv_ldc2d hx hb hown (hts (.constantDouble RL 61 13904980329019473920) (by decide +kernel)) dL_looks_98 ?_
  exact W.dret hx hb hr (fun t ht hW => ⟨⟨_, (sh, sw, ts, bi, it, tu, ne, pr, so, lo, tr, n, lp, lz, lu, lk, ld, lf, lb, lw), rfl, (by unfold sPr; rw [if_neg hbad]) , by rw [ht]; exact hP9, va_K.moved hW.alike hK, hD⟩, hS9.F ht⟩) hS9.2.2 dL_looks_101
theorem mL_looks0 (l : Launch) (hst : l.stackTraces = false) (D : va_G) (cI cZ cD : ClassId) (a : Nat → Nat) (sz : Nat) (u : Bt) (x y z : Int32) : Met l yL_looks wsL_looks ({ frames := 9, cells := 1, slots := 6, locals := 147 } : Room) (va_Pc [.ref (a 0), .int (nI 0), .int x, .int y, .int z] (LQ D cI cZ cD (XU a cI cZ cD u) sz)) (va_Qd (fun (r : UInt64) (w : Bt) => (dat w, dt r) = sPr (dat u) x) (fun w t => XB D cI cZ cD (XU a cI cZ cD w) (va_A (XU a cI cZ cD u) sz) t) (va_A (XU a cI cZ cD u) sz)) 1 6 (va_A (XU a cI cZ cD u) sz) := by
  by_cases hg : gPr x
  · skip
    obtain ⟨k, hk, rfl⟩ := inR_nI (n := 4) (by decide) (⟨Int32.le_trans (by decide) hg.1, hg.2⟩ : inR x 0 4)
    have hk1 : 1 ≤ k := (nI_leI (a := 1) (b := k) (by decide) (by omega)).mp hg.1
    exact mL_looks0V l hst D cI cZ cD a sz u k y z ⟨hk1, by omega⟩ hg
  · exact mL_looks0X l hst D cI cZ cD a sz u x y z hg
set_option maxHeartbeats 4000000 in
set_option maxRecDepth 100000 in
theorem mL_looks1X (l : Launch) (hst : l.stackTraces = false) (D : va_G) (cI cZ cD : ClassId) (a : Nat → Nat) (sz : Nat) (u : Bt) (x q y : Int32) (hok : Ok (dat u)) (hbad : ¬ gRe (dat u) x q y) : Met l yL_looks wsL_looks ({ frames := 9, cells := 1, slots := 6, locals := 147 } : Room) (va_Pc [.ref (a 0), .int (nI 1), .int x, .int q, .int y] (LQ D cI cZ cD (XU a cI cZ cD u) sz)) (va_Qd (fun (r : UInt64) (w : Bt) => (dat w, dt r) = sRe (dat u) x q y) (fun w t => XB D cI cZ cD (XU a cI cZ cD w) (va_A (XU a cI cZ cD u) sz) t) (va_A (XU a cI cZ cD u) sz)) 1 6 (va_A (XU a cI cZ cD u) sz) := by
  refine va_MetW (cc := cL_looks) (maxL := 6) (ret := (some .double)) (hh := [(0, 89, 90, 59), (0, 89, 96, 30), (0, 89, 102, 33)]) (by decide +kernel) rfl ?_
  intro p e s m args below meth c s₁ B hml hv
  obtain ⟨rfl, hsz, ⟨hP, hK, hD0⟩, hE, hN⟩ := hv
  obtain ⟨sh, sw, ts, bi, it, tu, ne, pr, so, lo, tr, n, lp, lz, lu, lk, ld, lf, lb, lw⟩ := u
  have hP : va_P D vwCl (XW a cI cZ cD sh sw ts bi it tu ne pr so lo (nI tr) (nI n) lp lz lu lk ld lf lb lw) s.heap := hP
  have hD0 : va_D (fun _ => True) (XW a cI cZ cD sh sw ts bi it tu ne pr so lo (nI tr) (nI n) lp lz lu lk ld lf lb lw) := hD0
  have hx := B.exec
  have hb := B.bytes
  have hr := B.returns
  have hts := atoms_spec (ws := wsL_looks) B.pre
  have hown : s.vm.findClass RL = some m.cls := findClass_of_methodNamed B.named
  have hlocks := B.notSynchronized
  subst hsz
  have hD := hD0.self (sz := s.heap.size)
  generalize hAe : va_A (XU a cI cZ cD (sh, sw, ts, bi, it, tu, ne, pr, so, lo, tr, n, lp, lz, lu, lk, ld, lf, lb, lw)) s.heap.size = A at hE ⊢
  have hAe : va_A (XW a cI cZ cD sh sw ts bi it tu ne pr so lo (nI tr) (nI n) lp lz lu lk ld lf lb lw) s.heap.size = A := hAe
  rw [hAe] at hD
  have hA : ∀ q : Nat, s.heap.size ≤ q → A q := fun q h => by rw [← hAe]; exact Or.inr h
  have hS : va_S A s.heap s.heap [] := va_S.rf
  have hl := lv_entry ([.ref (a 0), .int (nI 1), .int x, .int q, .int y]) (n := 6) (Nat.le_of_ble_eq_true rfl)
  rw [lg_entry_eq]
  generalize (lg_sl ([.ref (a 0), .int (nI 1), .int x, .int q, .int y]) ++ List.replicate (6 - (lg_sl ([.ref (a 0), .int (nI 1), .int x, .int q, .int y])).length) Slot.unset).toArray = ls at hl ⊢
  have hl : lv_has ls 6 [(0, .ref (a 0)), (1, .int (nI 1)), (2, .int x), (3, .int q), (4, .int y)] := hl
  have htab := vx_table (x := yL_looks) B (hts (.codeWith yL_looks cL_looks 6 (some .double) [(0, 89, 90, 59), (0, 89, 96, 30), (0, 89, 102, 33)]) (by decide +kernel))
  refine lv_iload_n hx hb dL_looks_0 rfl (lv_at hl 1 rfl) ?_
  refine lv_if_ne (tgt := 12) hx hb dL_looks_1 (by decide) (fun c => ?_) (fun c => by first | exact absurd c (by decide) | exact absurd rfl c | exact (c (by decide)).elim)
  refine lv_iload_n hx hb dL_looks_12 rfl (lv_at hl 1 rfl) ?_
  refine lv_iconst (v := nI 1) hx hb dL_looks_13 (by decide) ?_
  refine lv_icmp_ne (tgt := 28) hx hb dL_looks_14 (by decide) (fun c => by first | exact absurd c (by decide) | exact absurd rfl c | exact (c (by decide)).elim) (fun c => ?_)
  refine lv_aload_n hx hb dL_looks_17 rfl (lv_at hl 0 rfl) ?_
  refine lv_iload_n hx hb dL_looks_18 rfl (lv_at hl 2 rfl) ?_
  refine lv_iload_n hx hb dL_looks_19 rfl (lv_at hl 3 rfl) ?_
  refine lv_iload hx hb dL_looks_20 (lv_at hl 4 rfl) ?_
  have hn : n ≤ 60 := hok.1
  refine vx_calld (vx_runV (As := [.int x, .int q, .int y]) (rest := []) ⟨hx, hb, hml, hown, hts⟩ (mX1_replaceX l hst D cI cZ cD a s.heap sh sw ts bi it tu ne pr so lo (nI tr) lp lz lu lk ld lf lb lw n hn x q y (fun z => hbad z)) (cwV 3 hts gL_looks_X1_replace rfl rfl rfl (by decide +kernel) ⟨Nat.le_of_ble_eq_true rfl, Nat.le_of_ble_eq_true rfl⟩) ⟨xq_blind, va_recv hK hP (ci := 1) (q0 := 0) rfl rfl, xq_pre hP hK hD hE hS hA⟩ rfl rfl hl.1 rfl (lv_room (Nat.le_of_ble_eq_true rfl)) dL_looks_22 ⟨Nat.le_of_ble_eq_true rfl, Nat.le_of_ble_eq_true rfl⟩) hS (fun q h1 h2 => absurd h2 (Nat.not_le.mpr h1)) (fun q h => hA q (Nat.le_trans hS.1 h)) (fun q h1 h2 => absurd h2 (Nat.not_le.mpr h1)) (fun E ce q9 u9 t9 H9 locs9 ht9 hvm9 hpx9 hB9 hz9 hk9 hS9 hce9 hcv9 hcl9 => ?_) (fun r u1 t H1 locs1 ht hvm hw hB hz1 hk1 hS1 => hw.elim)
  have hP9 : va_P D vwCl (XW a cI cZ cD sh sw ts bi it tu ne pr so lo (nI tr) (nI n) lp lz lu lk ld lf lb lw) H9 := hP.kept (fun k q hq => hk9 q.1 (hP k q hq).lt (Nat.not_le.mpr (hP k q hq).lt))
  rcases hB9 with ⟨rfl, h1⟩ | ⟨rfl, h1⟩ | ⟨rfl, h1⟩
  · skip
    refine vx_catch (own := RL) (name := "java/lang/IllegalArgumentException") (E := "java/lang/IllegalArgumentException") hown [⟨0, 89, 90, 59⟩] ⟨0, 89, 96, 30⟩ [⟨0, 89, 102, 33⟩] (by rw [htab]; rfl) (fun z hz => by obtain rfl := List.mem_singleton.mp hz; exact Or.inr ⟨by decide, "java/lang/IndexOutOfBoundsException", hts (.classLink RL 59 "java/lang/IndexOutOfBoundsException") (by decide +kernel), hN.1⟩) (by decide) (by decide) (hts (.classLink RL 30 "java/lang/IllegalArgumentException") (by decide +kernel)) (hE.words (.castable "java/lang/IllegalArgumentException" "java/lang/IllegalArgumentException") (by decide +kernel)) hce9 hcv9 hcl9 ?_
    refine lv_astore (lv' := [(5, .ref q9), (0, .ref (a 0)), (1, .int (nI 1)), (2, .int x), (3, .int q), (4, .int y)]) hx hb dL_looks_96 hl (by decide) rfl (fun ls hl => ?_)
    refine lv_ldc2d hx hb hown (hts (.constantDouble RL 61 13904980329019473920) (by decide +kernel)) dL_looks_98 ?_
    exact W.dret hx hb hr (fun t ht hW => ⟨⟨_, (sh, sw, ts, bi, it, tu, ne, pr, so, lo, tr, n, lp, lz, lu, lk, ld, lf, lb, lw), rfl, (by unfold sRe; rw [if_neg hbad]) , by rw [ht]; exact hP9, va_K.moved hW.alike hK, hD⟩, hS9.F ht⟩) hS9.2.2 dL_looks_101
  · skip
    refine vx_catch (own := RL) (name := "java/lang/IndexOutOfBoundsException") (E := "java/lang/IndexOutOfBoundsException") hown [] ⟨0, 89, 90, 59⟩ [⟨0, 89, 96, 30⟩, ⟨0, 89, 102, 33⟩] (by rw [htab]; rfl) (fun z hz => absurd hz List.not_mem_nil) (by decide) (by decide) (hts (.classLink RL 59 "java/lang/IndexOutOfBoundsException") (by decide +kernel)) (hE.words (.castable "java/lang/IndexOutOfBoundsException" "java/lang/IndexOutOfBoundsException") (by decide +kernel)) hce9 hcv9 hcl9 ?_
    refine lv_astore (lv' := [(5, .ref q9), (0, .ref (a 0)), (1, .int (nI 1)), (2, .int x), (3, .int q), (4, .int y)]) hx hb dL_looks_90 hl (by decide) rfl (fun ls hl => ?_)
    refine lv_ldc2d hx hb hown (hts (.constantDouble RL 61 13904980329019473920) (by decide +kernel)) dL_looks_92 ?_
    exact W.dret hx hb hr (fun t ht hW => ⟨⟨_, (sh, sw, ts, bi, it, tu, ne, pr, so, lo, tr, n, lp, lz, lu, lk, ld, lf, lb, lw), rfl, (by unfold sRe; rw [if_neg hbad]) , by rw [ht]; exact hP9, va_K.moved hW.alike hK, hD⟩, hS9.F ht⟩) hS9.2.2 dL_looks_95
  · skip
    refine vx_catch (own := RL) (name := "java/lang/IllegalStateException") (E := "java/lang/IllegalStateException") hown [⟨0, 89, 90, 59⟩, ⟨0, 89, 96, 30⟩] ⟨0, 89, 102, 33⟩ [] (by rw [htab]; rfl) (fun z hz => by rcases List.mem_cons.mp hz with rfl | hz; exact Or.inr ⟨by decide, "java/lang/IndexOutOfBoundsException", hts (.classLink RL 59 "java/lang/IndexOutOfBoundsException") (by decide +kernel), hN.2.1⟩; obtain rfl := List.mem_singleton.mp hz; exact Or.inr ⟨by decide, "java/lang/IllegalArgumentException", hts (.classLink RL 30 "java/lang/IllegalArgumentException") (by decide +kernel), hN.2.2⟩) (by decide) (by decide) (hts (.classLink RL 33 "java/lang/IllegalStateException") (by decide +kernel)) (hE.words (.castable "java/lang/IllegalStateException" "java/lang/IllegalStateException") (by decide +kernel)) hce9 hcv9 hcl9 ?_
    refine lv_astore (lv' := [(5, .ref q9), (0, .ref (a 0)), (1, .int (nI 1)), (2, .int x), (3, .int q), (4, .int y)]) hx hb dL_looks_102 hl (by decide) rfl (fun ls hl => ?_)
    refine lv_ldc2d hx hb hown (hts (.constantDouble RL 61 13904980329019473920) (by decide +kernel)) dL_looks_104 ?_
    exact W.dret hx hb hr (fun t ht hW => ⟨⟨_, (sh, sw, ts, bi, it, tu, ne, pr, so, lo, tr, n, lp, lz, lu, lk, ld, lf, lb, lw), rfl, (by unfold sRe; rw [if_neg hbad]) , by rw [ht]; exact hP9, va_K.moved hW.alike hK, hD⟩, hS9.F ht⟩) hS9.2.2 dL_looks_107
theorem mL_looks1 (l : Launch) (hst : l.stackTraces = false) (D : va_G) (cI cZ cD : ClassId) (a : Nat → Nat) (sz : Nat) (u : Bt) (x q y : Int32) (hok : Ok (dat u)) : MetD lw_cs l yL_looks wsL_looks ({ frames := 9, cells := 1, slots := 6, locals := 147 } : Room) (va_Pc [.ref (a 0), .int (nI 1), .int x, .int q, .int y] (LQ D cI cZ cD (XU a cI cZ cD u) sz)) (va_Qd (fun (r : UInt64) (w : Bt) => (dat w, dt r) = sRe (dat u) x q y) (fun w t => XB D cI cZ cD (XU a cI cZ cD w) (va_A (XU a cI cZ cD u) sz) t) (va_A (XU a cI cZ cD u) sz)) 1 6 (va_A (XU a cI cZ cD u) sz) := by
  by_cases hg : gRe (dat u) x q y
  · skip
    obtain ⟨o, ho, rfl⟩ := inR_nI (n := 4) (by decide) hg.1
    obtain ⟨j, hj, rfl⟩ := isQ_nI (by have := hok.1; show s_n (dat u) < _; omega) hg.2.2.1
    exact mL_looks1V l hst D cI cZ cD a sz u o j y (by omega) hj hok hg
  · exact MetD.of_met (mL_looks1X l hst D cI cZ cD a sz u x q y hok hg)
set_option maxHeartbeats 4000000 in
set_option maxRecDepth 100000 in
theorem mL_looks2X (l : Launch) (hst : l.stackTraces = false) (D : va_G) (cI cZ cD : ClassId) (a : Nat → Nat) (Hp : Heap) (u : Bt) (x q y : Int32) (hbad : ¬ gRd (dat u) x q) : Met l yL_looks wsL_looks ({ frames := 9, cells := 1, slots := 6, locals := 147 } : Room) (va_Pc [.ref (a 0), .int (nI 2), .int x, .int q, .int y] (ZQ D cI cZ cD (XU a cI cZ cD u) Hp)) (va_Qd (fun (r : UInt64) (_ : Unit) => dt r = rd (s_lu (dat u)) (dat u) x q) (fun _ _ => True) (fun q => Hp.size ≤ q)) 1 6 (fun q => Hp.size ≤ q) := by
  refine va_MetW (cc := cL_looks) (maxL := 6) (ret := (some .double)) (hh := [(0, 89, 90, 59), (0, 89, 96, 30), (0, 89, 102, 33)]) (by decide +kernel) rfl ?_
  intro p e s m args below meth c s₁ B hml hv
  obtain ⟨rfl, hsz, ⟨hP, hK, hD0⟩, hE, hN⟩ := hv
  obtain ⟨sh, sw, ts, bi, it, tu, ne, pr, so, lo, tr, n, lp, lz, lu, lk, ld, lf, lb, lw⟩ := u
  have hP : va_P D vwCl (XW a cI cZ cD sh sw ts bi it tu ne pr so lo (nI tr) (nI n) lp lz lu lk ld lf lb lw) s.heap := hP
  have hD0 : va_D (fun _ => True) (XW a cI cZ cD sh sw ts bi it tu ne pr so lo (nI tr) (nI n) lp lz lu lk ld lf lb lw) := hD0
  have hx := B.exec
  have hb := B.bytes
  have hr := B.returns
  have hts := atoms_spec (ws := wsL_looks) B.pre
  have hown : s.vm.findClass RL = some m.cls := findClass_of_methodNamed B.named
  have hlocks := B.notSynchronized
  subst hsz
  have hD := hD0
  have hA : ∀ q : Nat, s.heap.size ≤ q → (fun q => s.heap.size ≤ q) q := fun q h => h
  have hS : va_S (fun q => s.heap.size ≤ q) s.heap s.heap [] := va_S.rf
  have hl := lv_entry ([.ref (a 0), .int (nI 2), .int x, .int q, .int y]) (n := 6) (Nat.le_of_ble_eq_true rfl)
  rw [lg_entry_eq]
  generalize (lg_sl ([.ref (a 0), .int (nI 2), .int x, .int q, .int y]) ++ List.replicate (6 - (lg_sl ([.ref (a 0), .int (nI 2), .int x, .int q, .int y])).length) Slot.unset).toArray = ls at hl ⊢
  have hl : lv_has ls 6 [(0, .ref (a 0)), (1, .int (nI 2)), (2, .int x), (3, .int q), (4, .int y)] := hl
  have htab := vx_table (x := yL_looks) B (hts (.codeWith yL_looks cL_looks 6 (some .double) [(0, 89, 90, 59), (0, 89, 96, 30), (0, 89, 102, 33)]) (by decide +kernel))
  refine lv_iload_n hx hb dL_looks_0 rfl (lv_at hl 1 rfl) ?_
  refine lv_if_ne (tgt := 12) hx hb dL_looks_1 (by decide) (fun c => ?_) (fun c => by first | exact absurd c (by decide) | exact absurd rfl c | exact (c (by decide)).elim)
  refine lv_iload_n hx hb dL_looks_12 rfl (lv_at hl 1 rfl) ?_
  refine lv_iconst (v := nI 1) hx hb dL_looks_13 (by decide) ?_
  refine lv_icmp_ne (tgt := 28) hx hb dL_looks_14 (by decide) (fun c => ?_) (fun c => by first | exact absurd c (by decide) | exact absurd rfl c | exact (c (by decide)).elim)
  refine lv_iload_n hx hb dL_looks_28 rfl (lv_at hl 1 rfl) ?_
  refine lv_iconst (v := nI 2) hx hb dL_looks_29 (by decide) ?_
  refine lv_icmp_ne (tgt := 42) hx hb dL_looks_30 (by decide) (fun c => by first | exact absurd c (by decide) | exact absurd rfl c | exact (c (by decide)).elim) (fun c => ?_)
  refine lv_aload_n hx hb dL_looks_33 rfl (lv_at hl 0 rfl) ?_
  refine lv_iload_n hx hb dL_looks_34 rfl (lv_at hl 2 rfl) ?_
  refine lv_iload_n hx hb dL_looks_35 rfl (lv_at hl 3 rfl) ?_
  refine vx_calld (vx_runV (As := [.int x, .int q]) (rest := []) ⟨hx, hb, hml, hown, hts⟩ (mX1_useX l hst D cI cZ cD a s.heap sh sw ts bi it tu ne pr so lo (nI tr) lp lz lu lk ld lf lb lw n x q (fun z => hbad z)) (cwV 2 hts gL_looks_X1_use rfl rfl rfl (by decide +kernel) ⟨Nat.le_of_ble_eq_true rfl, Nat.le_of_ble_eq_true rfl⟩) ⟨xq_blind, va_recv hK hP (ci := 1) (q0 := 0) rfl rfl, xq_pre hP hK hD hE hS hA⟩ rfl rfl hl.1 rfl (lv_room (Nat.le_of_ble_eq_true rfl)) dL_looks_36 ⟨Nat.le_of_ble_eq_true rfl, Nat.le_of_ble_eq_true rfl⟩) hS (fun q h1 h2 => absurd h2 (Nat.not_le.mpr h1)) (fun q h => hA q (Nat.le_trans hS.1 h)) (fun q h1 h2 => absurd h2 (Nat.not_le.mpr h1)) (fun E ce q9 u9 t9 H9 locs9 ht9 hvm9 hpx9 hB9 hz9 hk9 hS9 hce9 hcv9 hcl9 => ?_) (fun r u1 t H1 locs1 ht hvm hw hB hz1 hk1 hS1 => hw.elim)
  rcases hB9 with ⟨rfl, h1⟩ | ⟨rfl, h1⟩
  · skip
    refine vx_catch (own := RL) (name := "java/lang/IllegalArgumentException") (E := "java/lang/IllegalArgumentException") hown [⟨0, 89, 90, 59⟩] ⟨0, 89, 96, 30⟩ [⟨0, 89, 102, 33⟩] (by rw [htab]; rfl) (fun z hz => by obtain rfl := List.mem_singleton.mp hz; exact Or.inr ⟨by decide, "java/lang/IndexOutOfBoundsException", hts (.classLink RL 59 "java/lang/IndexOutOfBoundsException") (by decide +kernel), hN.1⟩) (by decide) (by decide) (hts (.classLink RL 30 "java/lang/IllegalArgumentException") (by decide +kernel)) (hE.words (.castable "java/lang/IllegalArgumentException" "java/lang/IllegalArgumentException") (by decide +kernel)) hce9 hcv9 hcl9 ?_
    refine lv_astore (lv' := [(5, .ref q9), (0, .ref (a 0)), (1, .int (nI 2)), (2, .int x), (3, .int q), (4, .int y)]) hx hb dL_looks_96 hl (by decide) rfl (fun ls hl => ?_)
    refine lv_ldc2d hx hb hown (hts (.constantDouble RL 61 13904980329019473920) (by decide +kernel)) dL_looks_98 ?_
    exact W.dret hx hb hr (fun t ht hW => ⟨⟨_, (), rfl, (by unfold rd; rw [if_neg hbad]), trivial⟩, hS9.F ht⟩) hS9.2.2 dL_looks_101
  · skip
    refine vx_catch (own := RL) (name := "java/lang/IndexOutOfBoundsException") (E := "java/lang/IndexOutOfBoundsException") hown [] ⟨0, 89, 90, 59⟩ [⟨0, 89, 96, 30⟩, ⟨0, 89, 102, 33⟩] (by rw [htab]; rfl) (fun z hz => absurd hz List.not_mem_nil) (by decide) (by decide) (hts (.classLink RL 59 "java/lang/IndexOutOfBoundsException") (by decide +kernel)) (hE.words (.castable "java/lang/IndexOutOfBoundsException" "java/lang/IndexOutOfBoundsException") (by decide +kernel)) hce9 hcv9 hcl9 ?_
    refine lv_astore (lv' := [(5, .ref q9), (0, .ref (a 0)), (1, .int (nI 2)), (2, .int x), (3, .int q), (4, .int y)]) hx hb dL_looks_90 hl (by decide) rfl (fun ls hl => ?_)
    refine lv_ldc2d hx hb hown (hts (.constantDouble RL 61 13904980329019473920) (by decide +kernel)) dL_looks_92 ?_
    exact W.dret hx hb hr (fun t ht hW => ⟨⟨_, (), rfl, (by unfold rd; rw [if_neg hbad]), trivial⟩, hS9.F ht⟩) hS9.2.2 dL_looks_95
theorem mL_looks2 (l : Launch) (hst : l.stackTraces = false) (D : va_G) (cI cZ cD : ClassId) (a : Nat → Nat) (Hp : Heap) (u : Bt) (x q y : Int32) (hok : Ok (dat u)) : Met l yL_looks wsL_looks ({ frames := 9, cells := 1, slots := 6, locals := 147 } : Room) (va_Pc [.ref (a 0), .int (nI 2), .int x, .int q, .int y] (ZQ D cI cZ cD (XU a cI cZ cD u) Hp)) (va_Qd (fun (r : UInt64) (_ : Unit) => dt r = rd (s_lu (dat u)) (dat u) x q) (fun _ _ => True) (fun q => Hp.size ≤ q)) 1 6 (fun q => Hp.size ≤ q) := by
  by_cases hg : gRd (dat u) x q
  · skip
    obtain ⟨o, ho, rfl⟩ := inR_nI (n := 4) (by decide) hg.1
    obtain ⟨j, hj, rfl⟩ := isQ_nI (by have := hok.1; show s_n (dat u) < _; omega) hg.2
    exact mL_looks2V l hst D cI cZ cD a Hp u o j y (by omega) hj hok hg
  · exact mL_looks2X l hst D cI cZ cD a Hp u x q y hg
set_option maxHeartbeats 4000000 in
set_option maxRecDepth 100000 in
theorem mL_looks3X (l : Launch) (hst : l.stackTraces = false) (D : va_G) (cI cZ cD : ClassId) (a : Nat → Nat) (Hp : Heap) (u : Bt) (x q y : Int32) (hbad : ¬ gRd (dat u) x q) : Met l yL_looks wsL_looks ({ frames := 9, cells := 1, slots := 6, locals := 147 } : Room) (va_Pc [.ref (a 0), .int (nI 3), .int x, .int q, .int y] (ZQ D cI cZ cD (XU a cI cZ cD u) Hp)) (va_Qd (fun (r : UInt64) (_ : Unit) => dt r = rd (s_lf (dat u)) (dat u) x q) (fun _ _ => True) (fun q => Hp.size ≤ q)) 1 6 (fun q => Hp.size ≤ q) := by
  refine va_MetW (cc := cL_looks) (maxL := 6) (ret := (some .double)) (hh := [(0, 89, 90, 59), (0, 89, 96, 30), (0, 89, 102, 33)]) (by decide +kernel) rfl ?_
  intro p e s m args below meth c s₁ B hml hv
  obtain ⟨rfl, hsz, ⟨hP, hK, hD0⟩, hE, hN⟩ := hv
  obtain ⟨sh, sw, ts, bi, it, tu, ne, pr, so, lo, tr, n, lp, lz, lu, lk, ld, lf, lb, lw⟩ := u
  have hP : va_P D vwCl (XW a cI cZ cD sh sw ts bi it tu ne pr so lo (nI tr) (nI n) lp lz lu lk ld lf lb lw) s.heap := hP
  have hD0 : va_D (fun _ => True) (XW a cI cZ cD sh sw ts bi it tu ne pr so lo (nI tr) (nI n) lp lz lu lk ld lf lb lw) := hD0
  have hx := B.exec
  have hb := B.bytes
  have hr := B.returns
  have hts := atoms_spec (ws := wsL_looks) B.pre
  have hown : s.vm.findClass RL = some m.cls := findClass_of_methodNamed B.named
  have hlocks := B.notSynchronized
  subst hsz
  have hD := hD0
  have hA : ∀ q : Nat, s.heap.size ≤ q → (fun q => s.heap.size ≤ q) q := fun q h => h
  have hS : va_S (fun q => s.heap.size ≤ q) s.heap s.heap [] := va_S.rf
  have hl := lv_entry ([.ref (a 0), .int (nI 3), .int x, .int q, .int y]) (n := 6) (Nat.le_of_ble_eq_true rfl)
  rw [lg_entry_eq]
  generalize (lg_sl ([.ref (a 0), .int (nI 3), .int x, .int q, .int y]) ++ List.replicate (6 - (lg_sl ([.ref (a 0), .int (nI 3), .int x, .int q, .int y])).length) Slot.unset).toArray = ls at hl ⊢
  have hl : lv_has ls 6 [(0, .ref (a 0)), (1, .int (nI 3)), (2, .int x), (3, .int q), (4, .int y)] := hl
  have htab := vx_table (x := yL_looks) B (hts (.codeWith yL_looks cL_looks 6 (some .double) [(0, 89, 90, 59), (0, 89, 96, 30), (0, 89, 102, 33)]) (by decide +kernel))
  refine lv_iload_n hx hb dL_looks_0 rfl (lv_at hl 1 rfl) ?_
  refine lv_if_ne (tgt := 12) hx hb dL_looks_1 (by decide) (fun c => ?_) (fun c => by first | exact absurd c (by decide) | exact absurd rfl c | exact (c (by decide)).elim)
  refine lv_iload_n hx hb dL_looks_12 rfl (lv_at hl 1 rfl) ?_
  refine lv_iconst (v := nI 1) hx hb dL_looks_13 (by decide) ?_
  refine lv_icmp_ne (tgt := 28) hx hb dL_looks_14 (by decide) (fun c => ?_) (fun c => by first | exact absurd c (by decide) | exact absurd rfl c | exact (c (by decide)).elim)
  refine lv_iload_n hx hb dL_looks_28 rfl (lv_at hl 1 rfl) ?_
  refine lv_iconst (v := nI 2) hx hb dL_looks_29 (by decide) ?_
  refine lv_icmp_ne (tgt := 42) hx hb dL_looks_30 (by decide) (fun c => ?_) (fun c => by first | exact absurd c (by decide) | exact absurd rfl c | exact (c (by decide)).elim)
  refine lv_iload_n hx hb dL_looks_42 rfl (lv_at hl 1 rfl) ?_
  refine lv_iconst (v := nI 3) hx hb dL_looks_43 (by decide) ?_
  refine lv_icmp_ne (tgt := 56) hx hb dL_looks_44 (by decide) (fun c => by first | exact absurd c (by decide) | exact absurd rfl c | exact (c (by decide)).elim) (fun c => ?_)
  refine lv_aload_n hx hb dL_looks_47 rfl (lv_at hl 0 rfl) ?_
  refine lv_iload_n hx hb dL_looks_48 rfl (lv_at hl 2 rfl) ?_
  refine lv_iload_n hx hb dL_looks_49 rfl (lv_at hl 3 rfl) ?_
  refine vx_calld (vx_runV (As := [.int x, .int q]) (rest := []) ⟨hx, hb, hml, hown, hts⟩ (mX1_fromSunX l hst D cI cZ cD a s.heap sh sw ts bi it tu ne pr so lo (nI tr) lp lz lu lk ld lf lb lw n x q (fun z => hbad z)) (cwV 2 hts gL_looks_X1_fromSun rfl rfl rfl (by decide +kernel) ⟨Nat.le_of_ble_eq_true rfl, Nat.le_of_ble_eq_true rfl⟩) ⟨xq_blind, va_recv hK hP (ci := 1) (q0 := 0) rfl rfl, xq_pre hP hK hD hE hS hA⟩ rfl rfl hl.1 rfl (lv_room (Nat.le_of_ble_eq_true rfl)) dL_looks_50 ⟨Nat.le_of_ble_eq_true rfl, Nat.le_of_ble_eq_true rfl⟩) hS (fun q h1 h2 => absurd h2 (Nat.not_le.mpr h1)) (fun q h => hA q (Nat.le_trans hS.1 h)) (fun q h1 h2 => absurd h2 (Nat.not_le.mpr h1)) (fun E ce q9 u9 t9 H9 locs9 ht9 hvm9 hpx9 hB9 hz9 hk9 hS9 hce9 hcv9 hcl9 => ?_) (fun r u1 t H1 locs1 ht hvm hw hB hz1 hk1 hS1 => hw.elim)
  rcases hB9 with ⟨rfl, h1⟩ | ⟨rfl, h1⟩
  · skip
    refine vx_catch (own := RL) (name := "java/lang/IllegalArgumentException") (E := "java/lang/IllegalArgumentException") hown [⟨0, 89, 90, 59⟩] ⟨0, 89, 96, 30⟩ [⟨0, 89, 102, 33⟩] (by rw [htab]; rfl) (fun z hz => by obtain rfl := List.mem_singleton.mp hz; exact Or.inr ⟨by decide, "java/lang/IndexOutOfBoundsException", hts (.classLink RL 59 "java/lang/IndexOutOfBoundsException") (by decide +kernel), hN.1⟩) (by decide) (by decide) (hts (.classLink RL 30 "java/lang/IllegalArgumentException") (by decide +kernel)) (hE.words (.castable "java/lang/IllegalArgumentException" "java/lang/IllegalArgumentException") (by decide +kernel)) hce9 hcv9 hcl9 ?_
    refine lv_astore (lv' := [(5, .ref q9), (0, .ref (a 0)), (1, .int (nI 3)), (2, .int x), (3, .int q), (4, .int y)]) hx hb dL_looks_96 hl (by decide) rfl (fun ls hl => ?_)
    refine lv_ldc2d hx hb hown (hts (.constantDouble RL 61 13904980329019473920) (by decide +kernel)) dL_looks_98 ?_
    exact W.dret hx hb hr (fun t ht hW => ⟨⟨_, (), rfl, (by unfold rd; rw [if_neg hbad]), trivial⟩, hS9.F ht⟩) hS9.2.2 dL_looks_101
  · skip
    refine vx_catch (own := RL) (name := "java/lang/IndexOutOfBoundsException") (E := "java/lang/IndexOutOfBoundsException") hown [] ⟨0, 89, 90, 59⟩ [⟨0, 89, 96, 30⟩, ⟨0, 89, 102, 33⟩] (by rw [htab]; rfl) (fun z hz => absurd hz List.not_mem_nil) (by decide) (by decide) (hts (.classLink RL 59 "java/lang/IndexOutOfBoundsException") (by decide +kernel)) (hE.words (.castable "java/lang/IndexOutOfBoundsException" "java/lang/IndexOutOfBoundsException") (by decide +kernel)) hce9 hcv9 hcl9 ?_
    refine lv_astore (lv' := [(5, .ref q9), (0, .ref (a 0)), (1, .int (nI 3)), (2, .int x), (3, .int q), (4, .int y)]) hx hb dL_looks_90 hl (by decide) rfl (fun ls hl => ?_)
    refine lv_ldc2d hx hb hown (hts (.constantDouble RL 61 13904980329019473920) (by decide +kernel)) dL_looks_92 ?_
    exact W.dret hx hb hr (fun t ht hW => ⟨⟨_, (), rfl, (by unfold rd; rw [if_neg hbad]), trivial⟩, hS9.F ht⟩) hS9.2.2 dL_looks_95
theorem mL_looks3 (l : Launch) (hst : l.stackTraces = false) (D : va_G) (cI cZ cD : ClassId) (a : Nat → Nat) (Hp : Heap) (u : Bt) (x q y : Int32) (hok : Ok (dat u)) : Met l yL_looks wsL_looks ({ frames := 9, cells := 1, slots := 6, locals := 147 } : Room) (va_Pc [.ref (a 0), .int (nI 3), .int x, .int q, .int y] (ZQ D cI cZ cD (XU a cI cZ cD u) Hp)) (va_Qd (fun (r : UInt64) (_ : Unit) => dt r = rd (s_lf (dat u)) (dat u) x q) (fun _ _ => True) (fun q => Hp.size ≤ q)) 1 6 (fun q => Hp.size ≤ q) := by
  by_cases hg : gRd (dat u) x q
  · skip
    obtain ⟨o, ho, rfl⟩ := inR_nI (n := 4) (by decide) hg.1
    obtain ⟨j, hj, rfl⟩ := isQ_nI (by have := hok.1; show s_n (dat u) < _; omega) hg.2
    exact mL_looks3V l hst D cI cZ cD a Hp u o j y (by omega) hj hok hg
  · exact mL_looks3X l hst D cI cZ cD a Hp u x q y hg
set_option maxHeartbeats 4000000 in
set_option maxRecDepth 100000 in
theorem mL_looks5X (l : Launch) (hst : l.stackTraces = false) (D : va_G) (cI cZ cD : ClassId) (a : Nat → Nat) (Hp : Heap) (u : Bt) (x q y : Int32) (hbad : ¬ gRd (dat u) x q) : Met l yL_looks wsL_looks ({ frames := 9, cells := 1, slots := 6, locals := 147 } : Room) (va_Pc [.ref (a 0), .int (nI 5), .int x, .int q, .int y] (ZQ D cI cZ cD (XU a cI cZ cD u) Hp)) (va_Qd (fun (r : UInt64) (_ : Unit) => dt r = rd (s_lw (dat u)) (dat u) x q) (fun _ _ => True) (fun q => Hp.size ≤ q)) 1 6 (fun q => Hp.size ≤ q) := by
  refine va_MetW (cc := cL_looks) (maxL := 6) (ret := (some .double)) (hh := [(0, 89, 90, 59), (0, 89, 96, 30), (0, 89, 102, 33)]) (by decide +kernel) rfl ?_
  intro p e s m args below meth c s₁ B hml hv
  obtain ⟨rfl, hsz, ⟨hP, hK, hD0⟩, hE, hN⟩ := hv
  obtain ⟨sh, sw, ts, bi, it, tu, ne, pr, so, lo, tr, n, lp, lz, lu, lk, ld, lf, lb, lw⟩ := u
  have hP : va_P D vwCl (XW a cI cZ cD sh sw ts bi it tu ne pr so lo (nI tr) (nI n) lp lz lu lk ld lf lb lw) s.heap := hP
  have hD0 : va_D (fun _ => True) (XW a cI cZ cD sh sw ts bi it tu ne pr so lo (nI tr) (nI n) lp lz lu lk ld lf lb lw) := hD0
  have hx := B.exec
  have hb := B.bytes
  have hr := B.returns
  have hts := atoms_spec (ws := wsL_looks) B.pre
  have hown : s.vm.findClass RL = some m.cls := findClass_of_methodNamed B.named
  have hlocks := B.notSynchronized
  subst hsz
  have hD := hD0
  have hA : ∀ q : Nat, s.heap.size ≤ q → (fun q => s.heap.size ≤ q) q := fun q h => h
  have hS : va_S (fun q => s.heap.size ≤ q) s.heap s.heap [] := va_S.rf
  have hl := lv_entry ([.ref (a 0), .int (nI 5), .int x, .int q, .int y]) (n := 6) (Nat.le_of_ble_eq_true rfl)
  rw [lg_entry_eq]
  generalize (lg_sl ([.ref (a 0), .int (nI 5), .int x, .int q, .int y]) ++ List.replicate (6 - (lg_sl ([.ref (a 0), .int (nI 5), .int x, .int q, .int y])).length) Slot.unset).toArray = ls at hl ⊢
  have hl : lv_has ls 6 [(0, .ref (a 0)), (1, .int (nI 5)), (2, .int x), (3, .int q), (4, .int y)] := hl
  have htab := vx_table (x := yL_looks) B (hts (.codeWith yL_looks cL_looks 6 (some .double) [(0, 89, 90, 59), (0, 89, 96, 30), (0, 89, 102, 33)]) (by decide +kernel))
  refine lv_iload_n hx hb dL_looks_0 rfl (lv_at hl 1 rfl) ?_
  refine lv_if_ne (tgt := 12) hx hb dL_looks_1 (by decide) (fun c => ?_) (fun c => by first | exact absurd c (by decide) | exact absurd rfl c | exact (c (by decide)).elim)
  refine lv_iload_n hx hb dL_looks_12 rfl (lv_at hl 1 rfl) ?_
  refine lv_iconst (v := nI 1) hx hb dL_looks_13 (by decide) ?_
  refine lv_icmp_ne (tgt := 28) hx hb dL_looks_14 (by decide) (fun c => ?_) (fun c => by first | exact absurd c (by decide) | exact absurd rfl c | exact (c (by decide)).elim)
  refine lv_iload_n hx hb dL_looks_28 rfl (lv_at hl 1 rfl) ?_
  refine lv_iconst (v := nI 2) hx hb dL_looks_29 (by decide) ?_
  refine lv_icmp_ne (tgt := 42) hx hb dL_looks_30 (by decide) (fun c => ?_) (fun c => by first | exact absurd c (by decide) | exact absurd rfl c | exact (c (by decide)).elim)
  refine lv_iload_n hx hb dL_looks_42 rfl (lv_at hl 1 rfl) ?_
  refine lv_iconst (v := nI 3) hx hb dL_looks_43 (by decide) ?_
  refine lv_icmp_ne (tgt := 56) hx hb dL_looks_44 (by decide) (fun c => ?_) (fun c => by first | exact absurd c (by decide) | exact absurd rfl c | exact (c (by decide)).elim)
  refine lv_iload_n hx hb dL_looks_56 rfl (lv_at hl 1 rfl) ?_
  refine lv_iconst (v := nI 4) hx hb dL_looks_57 (by decide) ?_
  refine lv_icmp_ne (tgt := 70) hx hb dL_looks_58 (by decide) (fun c => ?_) (fun c => by first | exact absurd c (by decide) | exact absurd rfl c | exact (c (by decide)).elim)
  refine lv_iload_n hx hb dL_looks_70 rfl (lv_at hl 1 rfl) ?_
  refine lv_iconst (v := nI 5) hx hb dL_looks_71 (by decide) ?_
  refine lv_icmp_ne (tgt := 84) hx hb dL_looks_72 (by decide) (fun c => by first | exact absurd c (by decide) | exact absurd rfl c | exact (c (by decide)).elim) (fun c => ?_)
  refine lv_aload_n hx hb dL_looks_75 rfl (lv_at hl 0 rfl) ?_
  refine lv_iload_n hx hb dL_looks_76 rfl (lv_at hl 2 rfl) ?_
  refine lv_iload_n hx hb dL_looks_77 rfl (lv_at hl 3 rfl) ?_
  refine vx_calld (vx_runV (As := [.int x, .int q]) (rest := []) ⟨hx, hb, hml, hown, hts⟩ (mX1_boughtX l hst D cI cZ cD a s.heap sh sw ts bi it tu ne pr so lo (nI tr) lp lz lu lk ld lf lb lw n x q (fun z => hbad z)) (cwV 2 hts gL_looks_X1_bought rfl rfl rfl (by decide +kernel) ⟨Nat.le_of_ble_eq_true rfl, Nat.le_of_ble_eq_true rfl⟩) ⟨xq_blind, va_recv hK hP (ci := 1) (q0 := 0) rfl rfl, xq_pre hP hK hD hE hS hA⟩ rfl rfl hl.1 rfl (lv_room (Nat.le_of_ble_eq_true rfl)) dL_looks_78 ⟨Nat.le_of_ble_eq_true rfl, Nat.le_of_ble_eq_true rfl⟩) hS (fun q h1 h2 => absurd h2 (Nat.not_le.mpr h1)) (fun q h => hA q (Nat.le_trans hS.1 h)) (fun q h1 h2 => absurd h2 (Nat.not_le.mpr h1)) (fun E ce q9 u9 t9 H9 locs9 ht9 hvm9 hpx9 hB9 hz9 hk9 hS9 hce9 hcv9 hcl9 => ?_) (fun r u1 t H1 locs1 ht hvm hw hB hz1 hk1 hS1 => hw.elim)
  rcases hB9 with ⟨rfl, h1⟩ | ⟨rfl, h1⟩
  · skip
    refine vx_catch (own := RL) (name := "java/lang/IllegalArgumentException") (E := "java/lang/IllegalArgumentException") hown [⟨0, 89, 90, 59⟩] ⟨0, 89, 96, 30⟩ [⟨0, 89, 102, 33⟩] (by rw [htab]; rfl) (fun z hz => by obtain rfl := List.mem_singleton.mp hz; exact Or.inr ⟨by decide, "java/lang/IndexOutOfBoundsException", hts (.classLink RL 59 "java/lang/IndexOutOfBoundsException") (by decide +kernel), hN.1⟩) (by decide) (by decide) (hts (.classLink RL 30 "java/lang/IllegalArgumentException") (by decide +kernel)) (hE.words (.castable "java/lang/IllegalArgumentException" "java/lang/IllegalArgumentException") (by decide +kernel)) hce9 hcv9 hcl9 ?_
    refine lv_astore (lv' := [(5, .ref q9), (0, .ref (a 0)), (1, .int (nI 5)), (2, .int x), (3, .int q), (4, .int y)]) hx hb dL_looks_96 hl (by decide) rfl (fun ls hl => ?_)
    refine lv_ldc2d hx hb hown (hts (.constantDouble RL 61 13904980329019473920) (by decide +kernel)) dL_looks_98 ?_
    exact W.dret hx hb hr (fun t ht hW => ⟨⟨_, (), rfl, (by unfold rd; rw [if_neg hbad]), trivial⟩, hS9.F ht⟩) hS9.2.2 dL_looks_101
  · skip
    refine vx_catch (own := RL) (name := "java/lang/IndexOutOfBoundsException") (E := "java/lang/IndexOutOfBoundsException") hown [] ⟨0, 89, 90, 59⟩ [⟨0, 89, 96, 30⟩, ⟨0, 89, 102, 33⟩] (by rw [htab]; rfl) (fun z hz => absurd hz List.not_mem_nil) (by decide) (by decide) (hts (.classLink RL 59 "java/lang/IndexOutOfBoundsException") (by decide +kernel)) (hE.words (.castable "java/lang/IndexOutOfBoundsException" "java/lang/IndexOutOfBoundsException") (by decide +kernel)) hce9 hcv9 hcl9 ?_
    refine lv_astore (lv' := [(5, .ref q9), (0, .ref (a 0)), (1, .int (nI 5)), (2, .int x), (3, .int q), (4, .int y)]) hx hb dL_looks_90 hl (by decide) rfl (fun ls hl => ?_)
    refine lv_ldc2d hx hb hown (hts (.constantDouble RL 61 13904980329019473920) (by decide +kernel)) dL_looks_92 ?_
    exact W.dret hx hb hr (fun t ht hW => ⟨⟨_, (), rfl, (by unfold rd; rw [if_neg hbad]), trivial⟩, hS9.F ht⟩) hS9.2.2 dL_looks_95
theorem mL_looks5 (l : Launch) (hst : l.stackTraces = false) (D : va_G) (cI cZ cD : ClassId) (a : Nat → Nat) (Hp : Heap) (u : Bt) (x q y : Int32) (hok : Ok (dat u)) : Met l yL_looks wsL_looks ({ frames := 9, cells := 1, slots := 6, locals := 147 } : Room) (va_Pc [.ref (a 0), .int (nI 5), .int x, .int q, .int y] (ZQ D cI cZ cD (XU a cI cZ cD u) Hp)) (va_Qd (fun (r : UInt64) (_ : Unit) => dt r = rd (s_lw (dat u)) (dat u) x q) (fun _ _ => True) (fun q => Hp.size ≤ q)) 1 6 (fun q => Hp.size ≤ q) := by
  by_cases hg : gRd (dat u) x q
  · skip
    obtain ⟨o, ho, rfl⟩ := inR_nI (n := 4) (by decide) hg.1
    obtain ⟨j, hj, rfl⟩ := isQ_nI (by have := hok.1; show s_n (dat u) < _; omega) hg.2
    exact mL_looks5V l hst D cI cZ cD a Hp u o j y (by omega) hj hok hg
  · exact mL_looks5X l hst D cI cZ cD a Hp u x q y hg
set_option maxHeartbeats 4000000 in
set_option maxRecDepth 100000 in
theorem mL_looks6X (l : Launch) (hst : l.stackTraces = false) (D : va_G) (cI cZ cD : ClassId) (a : Nat → Nat) (Hp : Heap) (u : Bt) (q y z : Int32) (hbad : ¬ isQ (s_n (dat u)) q) : Met l yL_looks wsL_looks ({ frames := 9, cells := 1, slots := 6, locals := 147 } : Room) (va_Pc [.ref (a 0), .int (nI 6), .int q, .int y, .int z] (ZQ D cI cZ cD (XU a cI cZ cD u) Hp)) (va_Qd (fun (r : UInt64) (_ : Unit) => dt r = rdZ (dat u) q) (fun _ _ => True) (fun q => Hp.size ≤ q)) 1 6 (fun q => Hp.size ≤ q) := by
  refine va_MetW (cc := cL_looks) (maxL := 6) (ret := (some .double)) (hh := [(0, 89, 90, 59), (0, 89, 96, 30), (0, 89, 102, 33)]) (by decide +kernel) rfl ?_
  intro p e s m args below meth c s₁ B hml hv
  obtain ⟨rfl, hsz, ⟨hP, hK, hD0⟩, hE, hN⟩ := hv
  obtain ⟨sh, sw, ts, bi, it, tu, ne, pr, so, lo, tr, n, lp, lz, lu, lk, ld, lf, lb, lw⟩ := u
  have hP : va_P D vwCl (XW a cI cZ cD sh sw ts bi it tu ne pr so lo (nI tr) (nI n) lp lz lu lk ld lf lb lw) s.heap := hP
  have hD0 : va_D (fun _ => True) (XW a cI cZ cD sh sw ts bi it tu ne pr so lo (nI tr) (nI n) lp lz lu lk ld lf lb lw) := hD0
  have hx := B.exec
  have hb := B.bytes
  have hr := B.returns
  have hts := atoms_spec (ws := wsL_looks) B.pre
  have hown : s.vm.findClass RL = some m.cls := findClass_of_methodNamed B.named
  have hlocks := B.notSynchronized
  subst hsz
  have hD := hD0
  have hA : ∀ q : Nat, s.heap.size ≤ q → (fun q => s.heap.size ≤ q) q := fun q h => h
  have hS : va_S (fun q => s.heap.size ≤ q) s.heap s.heap [] := va_S.rf
  have hl := lv_entry ([.ref (a 0), .int (nI 6), .int q, .int y, .int z]) (n := 6) (Nat.le_of_ble_eq_true rfl)
  rw [lg_entry_eq]
  generalize (lg_sl ([.ref (a 0), .int (nI 6), .int q, .int y, .int z]) ++ List.replicate (6 - (lg_sl ([.ref (a 0), .int (nI 6), .int q, .int y, .int z])).length) Slot.unset).toArray = ls at hl ⊢
  have hl : lv_has ls 6 [(0, .ref (a 0)), (1, .int (nI 6)), (2, .int q), (3, .int y), (4, .int z)] := hl
  have htab := vx_table (x := yL_looks) B (hts (.codeWith yL_looks cL_looks 6 (some .double) [(0, 89, 90, 59), (0, 89, 96, 30), (0, 89, 102, 33)]) (by decide +kernel))
  refine lv_iload_n hx hb dL_looks_0 rfl (lv_at hl 1 rfl) ?_
  refine lv_if_ne (tgt := 12) hx hb dL_looks_1 (by decide) (fun c => ?_) (fun c => by first | exact absurd c (by decide) | exact absurd rfl c | exact (c (by decide)).elim)
  refine lv_iload_n hx hb dL_looks_12 rfl (lv_at hl 1 rfl) ?_
  refine lv_iconst (v := nI 1) hx hb dL_looks_13 (by decide) ?_
  refine lv_icmp_ne (tgt := 28) hx hb dL_looks_14 (by decide) (fun c => ?_) (fun c => by first | exact absurd c (by decide) | exact absurd rfl c | exact (c (by decide)).elim)
  refine lv_iload_n hx hb dL_looks_28 rfl (lv_at hl 1 rfl) ?_
  refine lv_iconst (v := nI 2) hx hb dL_looks_29 (by decide) ?_
  refine lv_icmp_ne (tgt := 42) hx hb dL_looks_30 (by decide) (fun c => ?_) (fun c => by first | exact absurd c (by decide) | exact absurd rfl c | exact (c (by decide)).elim)
  refine lv_iload_n hx hb dL_looks_42 rfl (lv_at hl 1 rfl) ?_
  refine lv_iconst (v := nI 3) hx hb dL_looks_43 (by decide) ?_
  refine lv_icmp_ne (tgt := 56) hx hb dL_looks_44 (by decide) (fun c => ?_) (fun c => by first | exact absurd c (by decide) | exact absurd rfl c | exact (c (by decide)).elim)
  refine lv_iload_n hx hb dL_looks_56 rfl (lv_at hl 1 rfl) ?_
  refine lv_iconst (v := nI 4) hx hb dL_looks_57 (by decide) ?_
  refine lv_icmp_ne (tgt := 70) hx hb dL_looks_58 (by decide) (fun c => ?_) (fun c => by first | exact absurd c (by decide) | exact absurd rfl c | exact (c (by decide)).elim)
  refine lv_iload_n hx hb dL_looks_70 rfl (lv_at hl 1 rfl) ?_
  refine lv_iconst (v := nI 5) hx hb dL_looks_71 (by decide) ?_
  refine lv_icmp_ne (tgt := 84) hx hb dL_looks_72 (by decide) (fun c => ?_) (fun c => by first | exact absurd c (by decide) | exact absurd rfl c | exact (c (by decide)).elim)
  refine lv_aload_n hx hb dL_looks_84 rfl (lv_at hl 0 rfl) ?_
  refine lv_iload_n hx hb dL_looks_85 rfl (lv_at hl 2 rfl) ?_
  refine vx_calld (vx_runV (As := [.int q]) (rest := []) ⟨hx, hb, hml, hown, hts⟩ (mX1_soldX l hst D cI cZ cD a s.heap sh sw ts bi it tu ne pr so lo (nI tr) lp lz lu lk ld lf lb lw n q (fun z => hbad z)) (cwV 1 hts gL_looks_X1_sold rfl rfl rfl (by decide +kernel) ⟨Nat.le_of_ble_eq_true rfl, Nat.le_of_ble_eq_true rfl⟩) ⟨xq_blind, va_recv hK hP (ci := 1) (q0 := 0) rfl rfl, xq_pre hP hK hD hE hS hA⟩ rfl rfl hl.1 rfl (lv_room (Nat.le_of_ble_eq_true rfl)) dL_looks_86 ⟨Nat.le_of_ble_eq_true rfl, Nat.le_of_ble_eq_true rfl⟩) hS (fun q h1 h2 => absurd h2 (Nat.not_le.mpr h1)) (fun q h => hA q (Nat.le_trans hS.1 h)) (fun q h1 h2 => absurd h2 (Nat.not_le.mpr h1)) (fun E ce q9 u9 t9 H9 locs9 ht9 hvm9 hpx9 hB9 hz9 hk9 hS9 hce9 hcv9 hcl9 => ?_) (fun r u1 t H1 locs1 ht hvm hw hB hz1 hk1 hS1 => hw.elim)
  obtain rfl := hB9
  refine vx_catch (own := RL) (name := "java/lang/IndexOutOfBoundsException") (E := "java/lang/IndexOutOfBoundsException") hown [] ⟨0, 89, 90, 59⟩ [⟨0, 89, 96, 30⟩, ⟨0, 89, 102, 33⟩] (by rw [htab]; rfl) (fun z hz => absurd hz List.not_mem_nil) (by decide) (by decide) (hts (.classLink RL 59 "java/lang/IndexOutOfBoundsException") (by decide +kernel)) (hE.words (.castable "java/lang/IndexOutOfBoundsException" "java/lang/IndexOutOfBoundsException") (by decide +kernel)) hce9 hcv9 hcl9 ?_
  refine lv_astore (lv' := [(5, .ref q9), (0, .ref (a 0)), (1, .int (nI 6)), (2, .int q), (3, .int y), (4, .int z)]) hx hb dL_looks_90 hl (by decide) rfl (fun ls hl => ?_)
  refine lv_ldc2d hx hb hown (hts (.constantDouble RL 61 13904980329019473920) (by decide +kernel)) dL_looks_92 ?_
  exact W.dret hx hb hr (fun t ht hW => ⟨⟨_, (), rfl, (by unfold rdZ; rw [if_neg hbad]), trivial⟩, hS9.F ht⟩) hS9.2.2 dL_looks_95
theorem mL_looks6 (l : Launch) (hst : l.stackTraces = false) (D : va_G) (cI cZ cD : ClassId) (a : Nat → Nat) (Hp : Heap) (u : Bt) (q y z : Int32) (hok : Ok (dat u)) : Met l yL_looks wsL_looks ({ frames := 9, cells := 1, slots := 6, locals := 147 } : Room) (va_Pc [.ref (a 0), .int (nI 6), .int q, .int y, .int z] (ZQ D cI cZ cD (XU a cI cZ cD u) Hp)) (va_Qd (fun (r : UInt64) (_ : Unit) => dt r = rdZ (dat u) q) (fun _ _ => True) (fun q => Hp.size ≤ q)) 1 6 (fun q => Hp.size ≤ q) := by
  by_cases hg : isQ (s_n (dat u)) q
  · skip
    obtain ⟨j, hj, rfl⟩ := isQ_nI (by have := hok.1; show s_n (dat u) < _; omega) hg
    exact mL_looks6V l hst D cI cZ cD a Hp u j y z hj hok hg
  · exact mL_looks6X l hst D cI cZ cD a Hp u q y z hg
