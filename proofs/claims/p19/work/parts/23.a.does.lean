/-! THE LAW'S CALLS: does and looks hand on what GridCommons answers, or say that it threw -/
set_option maxHeartbeats 4000000 in
set_option maxRecDepth 100000 in
theorem mL_does0V (l : Launch) (hst : l.stackTraces = false) (D : va_G) (cI cZ cD : ClassId) (a : Nat → Nat) (sz : Nat) (u : Bt) (o : Nat) (y : Int32) (ho : o < 5) (hg : gSh (dat u) (nI o) y) : Met l yL_does wsL_does ({ frames := 8, cells := 1, slots := 6, locals := 127 } : Room) (va_Pc [.ref (a 0), .int (nI 0), .int (nI o), .int y] (LQ D cI cZ cD (XU a cI cZ cD u) sz)) (va_Qi (fun (r : Int32) (w : Bt) => (dat w, r) = sSh (dat u) (nI o) y) (fun w t => XB D cI cZ cD (XU a cI cZ cD w) (va_A (XU a cI cZ cD u) sz) t) (va_A (XU a cI cZ cD u) sz)) 1 6 (va_A (XU a cI cZ cD u) sz) := by
  refine va_MetW (cc := cL_does) (maxL := 5) (ret := (some .int)) (hh := [(0, 92, 93, 30), (0, 92, 98, 33)]) (by decide +kernel) rfl ?_
  intro p e s m args below meth c s₁ B hml hv
  obtain ⟨rfl, hsz, ⟨hP, hK, hD0⟩, hE, hN⟩ := hv
  obtain ⟨sh, sw, ts, bi, it, tu, ne, pr, so, lo, tr, n, lp, lz, lu, lk, ld, lf, lb, lw⟩ := u
  have hP : va_P D vwCl (XW a cI cZ cD sh sw ts bi it tu ne pr so lo (nI tr) (nI n) lp lz lu lk ld lf lb lw) s.heap := hP
  have hD0 : va_D (fun _ => True) (XW a cI cZ cD sh sw ts bi it tu ne pr so lo (nI tr) (nI n) lp lz lu lk ld lf lb lw) := hD0
  have hx := B.exec
  have hb := B.bytes
  have hr := B.returns
  have hts := atoms_spec (ws := wsL_does) B.pre
  have hown : s.vm.findClass RL = some m.cls := findClass_of_methodNamed B.named
  have hlocks := B.notSynchronized
  subst hsz
  have hD := hD0.self (sz := s.heap.size)
  generalize hAe : va_A (XU a cI cZ cD (sh, sw, ts, bi, it, tu, ne, pr, so, lo, tr, n, lp, lz, lu, lk, ld, lf, lb, lw)) s.heap.size = A at hE ⊢
  have hAe : va_A (XW a cI cZ cD sh sw ts bi it tu ne pr so lo (nI tr) (nI n) lp lz lu lk ld lf lb lw) s.heap.size = A := hAe
  rw [hAe] at hD
  have hA : ∀ q : Nat, s.heap.size ≤ q → A q := fun q h => by rw [← hAe]; exact Or.inr h
  have hS : va_S A s.heap s.heap [] := va_S.rf
  have hl := lv_entry ([.ref (a 0), .int (nI 0), .int (nI o), .int y]) (n := 5) (Nat.le_of_ble_eq_true rfl)
  rw [lg_entry_eq]
  generalize (lg_sl ([.ref (a 0), .int (nI 0), .int (nI o), .int y]) ++ List.replicate (5 - (lg_sl ([.ref (a 0), .int (nI 0), .int (nI o), .int y])).length) Slot.unset).toArray = ls at hl ⊢
  have hl : lv_has ls 5 [(0, .ref (a 0)), (1, .int (nI 0)), (2, .int (nI o)), (3, .int y)] := hl
  refine lv_iload_n hx hb dL_does_0 rfl (lv_at hl 1 rfl) ?_
  refine lv_if_ne (tgt := 13) hx hb dL_does_1 (by decide) (fun c => by first | exact absurd c (by decide) | exact absurd rfl c | exact (c (by decide)).elim) (fun c => ?_)
  refine lv_aload_n hx hb dL_does_4 rfl (lv_at hl 0 rfl) ?_
  refine lv_iload_n hx hb dL_does_5 rfl (lv_at hl 2 rfl) ?_
  refine lv_iload_n hx hb dL_does_6 rfl (lv_at hl 3 rfl) ?_
  have hFc := va_free (wc := XW a cI cZ cD sh sw ts bi it tu ne pr so lo (nI tr) (nI n) lp lz lu lk ld lf lb lw) hD hS hA [0, 1, 2, 3, 4, 5, 6, 7, 8, 9, 10, 11, 12, 13, 14, 15, 16] rfl
  refine va_calli (va_runV (As := [.int (nI o), .int y]) (rest := []) ⟨hx, hb, hml, hown, hts⟩ (mX1_setShareV l D cI cZ cD a _ sh sw ts bi it tu ne pr so lo (nI tr) (nI n) lp lz lu lk ld lf lb lw o y ho hg.2.1 hg.2.2) (cwV 2 hts gL_does_X1_setShare rfl rfl rfl (by decide +kernel) ⟨Nat.le_of_ble_eq_true rfl, Nat.le_of_ble_eq_true rfl⟩) ⟨xk_blind, va_recv hK hP (ci := 1) (q0 := 0) rfl rfl, xk_pre hP hK hD⟩ rfl rfl hl.1 rfl (lv_room (Nat.le_of_ble_eq_true rfl)) dL_does_7 ⟨Nat.le_of_ble_eq_true rfl, Nat.le_of_ble_eq_true rfl⟩) hS (fun q _ h => hFc q h) hFc (fun r u1 t H locs ht hvm hw hB hz1 hk1 hS => ?_)
  obtain ⟨z, rfl⟩ : ∃ z, z = u1 := ⟨_, rfl⟩
  obtain ⟨hP, -, hD1⟩ := hB
  rw [ht] at hP
  have hD := hD1.weaken (B := A) (fun _ _ _ h => hFc _ h)
  have hP : va_P D vwCl (XW a cI cZ cD (upd sh o y) sw ts bi it tu ne pr so lo (nI tr) (nI n) lp lz lu lk ld lf lb lw) H := hP
  have hD : va_D A (XW a cI cZ cD (upd sh o y) sw ts bi it tu ne pr so lo (nI tr) (nI n) lp lz lu lk ld lf lb lw) := hD
  subst hw
  refine lv_goto (tgt := 92) hx hb dL_does_10 (by decide) ?_
  refine W.widen (k := 1) (n := 6) (Nat.zero_le _) (Nat.zero_le _) ?_
  exact W.iret hx hb hr (fun t ht hW => ⟨⟨_, (upd sh o y, sw, ts, bi, it, tu, ne, pr, so, lo, tr, n, lp, lz, lu, lk, ld, lf, lb, lw), rfl, (by unfold sSh; rw [if_pos hg, nI_clamp (by omega)]; rfl), by rw [ht]; exact hP, va_K.moved hW.alike hK, hD⟩, hS.F ht⟩) hS.2.2 dL_does_92
set_option maxHeartbeats 4000000 in
set_option maxRecDepth 100000 in
theorem mL_does1V (l : Launch) (hst : l.stackTraces = false) (D : va_G) (cI cZ cD : ClassId) (a : Nat → Nat) (sz : Nat) (u : Bt) (o : Nat) (y : Int32) (ho : o < 5) (hok : Ok (dat u)) (hg : gSw (nI o)) : Met l yL_does wsL_does ({ frames := 8, cells := 1, slots := 6, locals := 127 } : Room) (va_Pc [.ref (a 0), .int (nI 1), .int (nI o), .int y] (LQ D cI cZ cD (XU a cI cZ cD u) sz)) (va_Qi (fun (r : Int32) (w : Bt) => (dat w, r) = sSw (dat u) (nI o) y) (fun w t => XB D cI cZ cD (XU a cI cZ cD w) (va_A (XU a cI cZ cD u) sz) t) (va_A (XU a cI cZ cD u) sz)) 1 6 (va_A (XU a cI cZ cD u) sz) := by
  refine va_MetW (cc := cL_does) (maxL := 5) (ret := (some .int)) (hh := [(0, 92, 93, 30), (0, 92, 98, 33)]) (by decide +kernel) rfl ?_
  intro p e s m args below meth c s₁ B hml hv
  obtain ⟨rfl, hsz, ⟨hP, hK, hD0⟩, hE, hN⟩ := hv
  obtain ⟨sh, sw, ts, bi, it, tu, ne, pr, so, lo, tr, n, lp, lz, lu, lk, ld, lf, lb, lw⟩ := u
  have hP : va_P D vwCl (XW a cI cZ cD sh sw ts bi it tu ne pr so lo (nI tr) (nI n) lp lz lu lk ld lf lb lw) s.heap := hP
  have hD0 : va_D (fun _ => True) (XW a cI cZ cD sh sw ts bi it tu ne pr so lo (nI tr) (nI n) lp lz lu lk ld lf lb lw) := hD0
  have hx := B.exec
  have hb := B.bytes
  have hr := B.returns
  have hts := atoms_spec (ws := wsL_does) B.pre
  have hown : s.vm.findClass RL = some m.cls := findClass_of_methodNamed B.named
  have hlocks := B.notSynchronized
  subst hsz
  have hD := hD0.self (sz := s.heap.size)
  generalize hAe : va_A (XU a cI cZ cD (sh, sw, ts, bi, it, tu, ne, pr, so, lo, tr, n, lp, lz, lu, lk, ld, lf, lb, lw)) s.heap.size = A at hE ⊢
  have hAe : va_A (XW a cI cZ cD sh sw ts bi it tu ne pr so lo (nI tr) (nI n) lp lz lu lk ld lf lb lw) s.heap.size = A := hAe
  rw [hAe] at hD
  have hA : ∀ q : Nat, s.heap.size ≤ q → A q := fun q h => by rw [← hAe]; exact Or.inr h
  have hS : va_S A s.heap s.heap [] := va_S.rf
  have hl := lv_entry ([.ref (a 0), .int (nI 1), .int (nI o), .int y]) (n := 5) (Nat.le_of_ble_eq_true rfl)
  rw [lg_entry_eq]
  generalize (lg_sl ([.ref (a 0), .int (nI 1), .int (nI o), .int y]) ++ List.replicate (5 - (lg_sl ([.ref (a 0), .int (nI 1), .int (nI o), .int y])).length) Slot.unset).toArray = ls at hl ⊢
  have hl : lv_has ls 5 [(0, .ref (a 0)), (1, .int (nI 1)), (2, .int (nI o)), (3, .int y)] := hl
  refine lv_iload_n hx hb dL_does_0 rfl (lv_at hl 1 rfl) ?_
  refine lv_if_ne (tgt := 13) hx hb dL_does_1 (by decide) (fun c => ?_) (fun c => by first | exact absurd c (by decide) | exact absurd rfl c | exact (c (by decide)).elim)
  refine lv_iload_n hx hb dL_does_13 rfl (lv_at hl 1 rfl) ?_
  refine lv_iconst (v := nI 1) hx hb dL_does_14 (by decide) ?_
  refine lv_icmp_ne (tgt := 44) hx hb dL_does_15 (by decide) (fun c => by first | exact absurd c (by decide) | exact absurd rfl c | exact (c (by decide)).elim) (fun c => ?_)
  refine lv_aload_n hx hb dL_does_18 rfl (lv_at hl 0 rfl) ?_
  refine lv_iload_n hx hb dL_does_19 rfl (lv_at hl 2 rfl) ?_
  refine lv_iload_n hx hb dL_does_20 rfl (lv_at hl 3 rfl) ?_
  refine lv_iconst (v := nI 1) hx hb dL_does_21 (by decide) ?_
  refine lv_icmp_ne (tgt := 29) hx hb dL_does_22 (by decide) (fun cy => ?_) (fun cy => ?_)
  · skip
    refine lv_iconst (v := nI 0) hx hb dL_does_29 (by decide) ?_
    have ey : bI (y = nI 1) = nI 0 := bI_f cy
    have hFc := va_free (wc := XW a cI cZ cD sh sw ts bi it tu ne pr so lo (nI tr) (nI n) lp lz lu lk ld lf lb lw) hD hS hA [0, 1, 2, 3, 4, 5, 6, 7, 8, 9, 10, 11, 12, 13, 14, 15, 16] rfl
    refine va_calli (va_runV (As := [.int (nI o), .int (nI 0)]) (rest := []) ⟨hx, hb, hml, hown, hts⟩ (mX1_setSwitchV l D cI cZ cD a _ sh sw ts bi it tu ne pr so lo (nI tr) (nI n) lp lz lu lk ld lf lb lw o (nI 0) ho (by decide) hok.2.2.1) (cwV 2 hts gL_does_X1_setSwitch rfl rfl rfl (by decide +kernel) ⟨Nat.le_of_ble_eq_true rfl, Nat.le_of_ble_eq_true rfl⟩) ⟨xk_blind, va_recv hK hP (ci := 1) (q0 := 0) rfl rfl, xk_pre hP hK hD⟩ rfl rfl hl.1 rfl (lv_room (Nat.le_of_ble_eq_true rfl)) dL_does_30 ⟨Nat.le_of_ble_eq_true rfl, Nat.le_of_ble_eq_true rfl⟩) hS (fun q _ h => hFc q h) hFc (fun r u1 t H locs ht hvm hw hB hz1 hk1 hS => ?_)
    obtain ⟨z, rfl⟩ : ∃ z, z = u1 := ⟨_, rfl⟩
    obtain ⟨hP, -, hD1⟩ := hB
    rw [ht] at hP
    have hD := hD1.weaken (B := A) (fun _ _ _ h => hFc _ h)
    have hP : va_P D vwCl (XW a cI cZ cD sh (upd sw o (nI 0)) ts bi it tu ne pr so lo (nI tr) (nI n) lp lz lu lk ld lf lb lw) H := hP
    have hD : va_D A (XW a cI cZ cD sh (upd sw o (nI 0)) ts bi it tu ne pr so lo (nI tr) (nI n) lp lz lu lk ld lf lb lw) := hD
    subst hw
    refine lv_if_eq (tgt := 40) hx hb dL_does_33 (by decide) (fun c => ?_) (fun c => ?_)
    · skip
      refine lv_iconst (v := nI 0) hx hb dL_does_40 (by decide) ?_
      refine lv_goto (tgt := 92) hx hb dL_does_41 (by decide) ?_
      have er : bI (sw o ≠ 0) = nI 0 := bI_eq _ c
      refine W.widen (k := 1) (n := 6) (Nat.zero_le _) (Nat.zero_le _) ?_
      exact W.iret hx hb hr (fun t ht hW => ⟨⟨_, (sh, upd sw o (nI 0), ts, bi, it, tu, ne, pr, so, lo, tr, n, lp, lz, lu, lk, ld, lf, lb, lw), rfl, (by unfold sSw; rw [if_pos hg, nI_clamp (by omega), show bI (y = 1) = nI 0 from ey]; exact Prod.ext rfl er.symm), by rw [ht]; exact hP, va_K.moved hW.alike hK, hD⟩, hS.F ht⟩) hS.2.2 dL_does_92
    · skip
      refine lv_iconst (v := nI 1) hx hb dL_does_36 (by decide) ?_
      refine lv_goto (tgt := 92) hx hb dL_does_37 (by decide) ?_
      have er : bI (sw o ≠ 0) = nI 1 := bI_ne _ c
      refine W.widen (k := 1) (n := 6) (Nat.zero_le _) (Nat.zero_le _) ?_
      exact W.iret hx hb hr (fun t ht hW => ⟨⟨_, (sh, upd sw o (nI 0), ts, bi, it, tu, ne, pr, so, lo, tr, n, lp, lz, lu, lk, ld, lf, lb, lw), rfl, (by unfold sSw; rw [if_pos hg, nI_clamp (by omega), show bI (y = 1) = nI 0 from ey]; exact Prod.ext rfl er.symm), by rw [ht]; exact hP, va_K.moved hW.alike hK, hD⟩, hS.F ht⟩) hS.2.2 dL_does_92
  · skip
    refine lv_iconst (v := nI 1) hx hb dL_does_25 (by decide) ?_
    refine lv_goto (tgt := 30) hx hb dL_does_26 (by decide) ?_
    have ey : bI (y = nI 1) = nI 1 := bI_t cy
    have hFc := va_free (wc := XW a cI cZ cD sh sw ts bi it tu ne pr so lo (nI tr) (nI n) lp lz lu lk ld lf lb lw) hD hS hA [0, 1, 2, 3, 4, 5, 6, 7, 8, 9, 10, 11, 12, 13, 14, 15, 16] rfl
    refine va_calli (va_runV (As := [.int (nI o), .int (nI 1)]) (rest := []) ⟨hx, hb, hml, hown, hts⟩ (mX1_setSwitchV l D cI cZ cD a _ sh sw ts bi it tu ne pr so lo (nI tr) (nI n) lp lz lu lk ld lf lb lw o (nI 1) ho (by decide) hok.2.2.1) (cwV 2 hts gL_does_X1_setSwitch rfl rfl rfl (by decide +kernel) ⟨Nat.le_of_ble_eq_true rfl, Nat.le_of_ble_eq_true rfl⟩) ⟨xk_blind, va_recv hK hP (ci := 1) (q0 := 0) rfl rfl, xk_pre hP hK hD⟩ rfl rfl hl.1 rfl (lv_room (Nat.le_of_ble_eq_true rfl)) dL_does_30 ⟨Nat.le_of_ble_eq_true rfl, Nat.le_of_ble_eq_true rfl⟩) hS (fun q _ h => hFc q h) hFc (fun r u1 t H locs ht hvm hw hB hz1 hk1 hS => ?_)
    obtain ⟨z, rfl⟩ : ∃ z, z = u1 := ⟨_, rfl⟩
    obtain ⟨hP, -, hD1⟩ := hB
    rw [ht] at hP
    have hD := hD1.weaken (B := A) (fun _ _ _ h => hFc _ h)
    have hP : va_P D vwCl (XW a cI cZ cD sh (upd sw o (nI 1)) ts bi it tu ne pr so lo (nI tr) (nI n) lp lz lu lk ld lf lb lw) H := hP
    have hD : va_D A (XW a cI cZ cD sh (upd sw o (nI 1)) ts bi it tu ne pr so lo (nI tr) (nI n) lp lz lu lk ld lf lb lw) := hD
    subst hw
    refine lv_if_eq (tgt := 40) hx hb dL_does_33 (by decide) (fun c => ?_) (fun c => ?_)
    · skip
      refine lv_iconst (v := nI 0) hx hb dL_does_40 (by decide) ?_
      refine lv_goto (tgt := 92) hx hb dL_does_41 (by decide) ?_
      have er : bI (sw o ≠ 0) = nI 0 := bI_eq _ c
      refine W.widen (k := 1) (n := 6) (Nat.zero_le _) (Nat.zero_le _) ?_
      exact W.iret hx hb hr (fun t ht hW => ⟨⟨_, (sh, upd sw o (nI 1), ts, bi, it, tu, ne, pr, so, lo, tr, n, lp, lz, lu, lk, ld, lf, lb, lw), rfl, (by unfold sSw; rw [if_pos hg, nI_clamp (by omega), show bI (y = 1) = nI 1 from ey]; exact Prod.ext rfl er.symm), by rw [ht]; exact hP, va_K.moved hW.alike hK, hD⟩, hS.F ht⟩) hS.2.2 dL_does_92
    · skip
      refine lv_iconst (v := nI 1) hx hb dL_does_36 (by decide) ?_
      refine lv_goto (tgt := 92) hx hb dL_does_37 (by decide) ?_
      have er : bI (sw o ≠ 0) = nI 1 := bI_ne _ c
      refine W.widen (k := 1) (n := 6) (Nat.zero_le _) (Nat.zero_le _) ?_
      exact W.iret hx hb hr (fun t ht hW => ⟨⟨_, (sh, upd sw o (nI 1), ts, bi, it, tu, ne, pr, so, lo, tr, n, lp, lz, lu, lk, ld, lf, lb, lw), rfl, (by unfold sSw; rw [if_pos hg, nI_clamp (by omega), show bI (y = 1) = nI 1 from ey]; exact Prod.ext rfl er.symm), by rw [ht]; exact hP, va_K.moved hW.alike hK, hD⟩, hS.F ht⟩) hS.2.2 dL_does_92
set_option maxHeartbeats 4000000 in
set_option maxRecDepth 100000 in
theorem mL_does2V (l : Launch) (hst : l.stackTraces = false) (D : va_G) (cI cZ cD : ClassId) (a : Nat → Nat) (sz : Nat) (u : Bt) (o : Nat) (y : Int32) (ho : o < 5) (hok : Ok (dat u)) (hg : gTl (nI o) y) : Met l yL_does wsL_does ({ frames := 8, cells := 1, slots := 6, locals := 127 } : Room) (va_Pc [.ref (a 0), .int (nI 2), .int (nI o), .int y] (LQ D cI cZ cD (XU a cI cZ cD u) sz)) (va_Qi (fun (r : Int32) (w : Bt) => (dat w, r) = sTl (dat u) (nI o) y) (fun w t => XB D cI cZ cD (XU a cI cZ cD w) (va_A (XU a cI cZ cD u) sz) t) (va_A (XU a cI cZ cD u) sz)) 1 6 (va_A (XU a cI cZ cD u) sz) := by
  refine va_MetW (cc := cL_does) (maxL := 5) (ret := (some .int)) (hh := [(0, 92, 93, 30), (0, 92, 98, 33)]) (by decide +kernel) rfl ?_
  intro p e s m args below meth c s₁ B hml hv
  obtain ⟨rfl, hsz, ⟨hP, hK, hD0⟩, hE, hN⟩ := hv
  obtain ⟨sh, sw, ts, bi, it, tu, ne, pr, so, lo, tr, n, lp, lz, lu, lk, ld, lf, lb, lw⟩ := u
  have hP : va_P D vwCl (XW a cI cZ cD sh sw ts bi it tu ne pr so lo (nI tr) (nI n) lp lz lu lk ld lf lb lw) s.heap := hP
  have hD0 : va_D (fun _ => True) (XW a cI cZ cD sh sw ts bi it tu ne pr so lo (nI tr) (nI n) lp lz lu lk ld lf lb lw) := hD0
  have hx := B.exec
  have hb := B.bytes
  have hr := B.returns
  have hts := atoms_spec (ws := wsL_does) B.pre
  have hown : s.vm.findClass RL = some m.cls := findClass_of_methodNamed B.named
  have hlocks := B.notSynchronized
  subst hsz
  have hD := hD0.self (sz := s.heap.size)
  generalize hAe : va_A (XU a cI cZ cD (sh, sw, ts, bi, it, tu, ne, pr, so, lo, tr, n, lp, lz, lu, lk, ld, lf, lb, lw)) s.heap.size = A at hE ⊢
  have hAe : va_A (XW a cI cZ cD sh sw ts bi it tu ne pr so lo (nI tr) (nI n) lp lz lu lk ld lf lb lw) s.heap.size = A := hAe
  rw [hAe] at hD
  have hA : ∀ q : Nat, s.heap.size ≤ q → A q := fun q h => by rw [← hAe]; exact Or.inr h
  have hS : va_S A s.heap s.heap [] := va_S.rf
  have hl := lv_entry ([.ref (a 0), .int (nI 2), .int (nI o), .int y]) (n := 5) (Nat.le_of_ble_eq_true rfl)
  rw [lg_entry_eq]
  generalize (lg_sl ([.ref (a 0), .int (nI 2), .int (nI o), .int y]) ++ List.replicate (5 - (lg_sl ([.ref (a 0), .int (nI 2), .int (nI o), .int y])).length) Slot.unset).toArray = ls at hl ⊢
  have hl : lv_has ls 5 [(0, .ref (a 0)), (1, .int (nI 2)), (2, .int (nI o)), (3, .int y)] := hl
  refine lv_iload_n hx hb dL_does_0 rfl (lv_at hl 1 rfl) ?_
  refine lv_if_ne (tgt := 13) hx hb dL_does_1 (by decide) (fun c => ?_) (fun c => by first | exact absurd c (by decide) | exact absurd rfl c | exact (c (by decide)).elim)
  refine lv_iload_n hx hb dL_does_13 rfl (lv_at hl 1 rfl) ?_
  refine lv_iconst (v := nI 1) hx hb dL_does_14 (by decide) ?_
  refine lv_icmp_ne (tgt := 44) hx hb dL_does_15 (by decide) (fun c => ?_) (fun c => by first | exact absurd c (by decide) | exact absurd rfl c | exact (c (by decide)).elim)
  refine lv_iload_n hx hb dL_does_44 rfl (lv_at hl 1 rfl) ?_
  refine lv_iconst (v := nI 2) hx hb dL_does_45 (by decide) ?_
  refine lv_icmp_ne (tgt := 66) hx hb dL_does_46 (by decide) (fun c => by first | exact absurd c (by decide) | exact absurd rfl c | exact (c (by decide)).elim) (fun c => ?_)
  refine lv_aload_n hx hb dL_does_49 rfl (lv_at hl 0 rfl) ?_
  refine lv_iload_n hx hb dL_does_50 rfl (lv_at hl 2 rfl) ?_
  refine lv_iload_n hx hb dL_does_51 rfl (lv_at hl 3 rfl) ?_
  have hFc := va_free (wc := XW a cI cZ cD sh sw ts bi it tu ne pr so lo (nI tr) (nI n) lp lz lu lk ld lf lb lw) hD hS hA [0, 1, 2, 3, 4, 5, 6, 7, 8, 9, 10, 11, 12, 13, 14, 15, 16] rfl
  refine va_calli (va_runV (As := [.int (nI o), .int y]) (rest := []) ⟨hx, hb, hml, hown, hts⟩ (mX1_tellV l D cI cZ cD a _ sh sw ts bi it tu ne pr so lo (nI tr) (nI n) lp lz lu lk ld lf lb lw o y ho hg.2 hok.2.2.2) (cwV 2 hts gL_does_X1_tell rfl rfl rfl (by decide +kernel) ⟨Nat.le_of_ble_eq_true rfl, Nat.le_of_ble_eq_true rfl⟩) ⟨xk_blind, va_recv hK hP (ci := 1) (q0 := 0) rfl rfl, xk_pre hP hK hD⟩ rfl rfl hl.1 rfl (lv_room (Nat.le_of_ble_eq_true rfl)) dL_does_52 ⟨Nat.le_of_ble_eq_true rfl, Nat.le_of_ble_eq_true rfl⟩) hS (fun q _ h => hFc q h) hFc (fun r u1 t H locs ht hvm hw hB hz1 hk1 hS => ?_)
  obtain ⟨z, rfl⟩ : ∃ z, z = u1 := ⟨_, rfl⟩
  obtain ⟨hP, -, hD1⟩ := hB
  rw [ht] at hP
  have hD := hD1.weaken (B := A) (fun _ _ _ h => hFc _ h)
  have hP : va_P D vwCl (XW a cI cZ cD sh sw ts bi (upd it o 1) (upd tu o y) ne pr so lo (nI tr) (nI n) lp lz lu lk ld lf lb lw) H := hP
  have hD : va_D A (XW a cI cZ cD sh sw ts bi (upd it o 1) (upd tu o y) ne pr so lo (nI tr) (nI n) lp lz lu lk ld lf lb lw) := hD
  subst hw
  refine lv_if_eq (tgt := 62) hx hb dL_does_55 (by decide) (fun c => ?_) (fun c => ?_)
  · skip
    refine lv_iconst (v := nI 0) hx hb dL_does_62 (by decide) ?_
    refine lv_goto (tgt := 92) hx hb dL_does_63 (by decide) ?_
    have er : bI (it o ≠ 0) = nI 0 := bI_eq _ c
    refine W.widen (k := 1) (n := 6) (Nat.zero_le _) (Nat.zero_le _) ?_
    exact W.iret hx hb hr (fun t ht hW => ⟨⟨_, (sh, sw, ts, bi, upd it o 1, upd tu o y, ne, pr, so, lo, tr, n, lp, lz, lu, lk, ld, lf, lb, lw), rfl, (by unfold sTl; rw [if_pos hg, nI_clamp (by omega)]; exact Prod.ext rfl er.symm), by rw [ht]; exact hP, va_K.moved hW.alike hK, hD⟩, hS.F ht⟩) hS.2.2 dL_does_92
  · skip
    refine lv_iconst (v := nI 1) hx hb dL_does_58 (by decide) ?_
    refine lv_goto (tgt := 92) hx hb dL_does_59 (by decide) ?_
    have er : bI (it o ≠ 0) = nI 1 := bI_ne _ c
    refine W.widen (k := 1) (n := 6) (Nat.zero_le _) (Nat.zero_le _) ?_
    exact W.iret hx hb hr (fun t ht hW => ⟨⟨_, (sh, sw, ts, bi, upd it o 1, upd tu o y, ne, pr, so, lo, tr, n, lp, lz, lu, lk, ld, lf, lb, lw), rfl, (by unfold sTl; rw [if_pos hg, nI_clamp (by omega)]; exact Prod.ext rfl er.symm), by rw [ht]; exact hP, va_K.moved hW.alike hK, hD⟩, hS.F ht⟩) hS.2.2 dL_does_92
set_option maxHeartbeats 4000000 in
set_option maxRecDepth 100000 in
theorem mL_does3V (l : Launch) (hst : l.stackTraces = false) (D : va_G) (cI cZ cD : ClassId) (a : Nat → Nat) (sz : Nat) (u : Bt) (x y : Int32) (hok : Ok (dat u)) (hg : gCl (dat u) x) : MetD lw_cs l yL_does wsL_does ({ frames := 8, cells := 1, slots := 6, locals := 127 } : Room) (va_Pc [.ref (a 0), .int (nI 3), .int x, .int y] (LQ D cI cZ cD (XU a cI cZ cD u) sz)) (va_Qi (fun (r : Int32) (w : Bt) => (dat w, r) = sCl (dat u) x) (fun w t => XB D cI cZ cD (XU a cI cZ cD w) (va_A (XU a cI cZ cD u) sz) t) (va_A (XU a cI cZ cD u) sz)) 1 6 (va_A (XU a cI cZ cD u) sz) := by
  refine xd_MetW (cc := cL_does) (maxL := 5) (ret := (some .int)) (hh := [(0, 92, 93, 30), (0, 92, 98, 33)]) (by decide +kernel) rfl ?_
  intro p e s m args below meth c s₁ B hml hv hd0
  obtain ⟨rfl, hsz, ⟨hP, hK, hD0⟩, hE, hN⟩ := hv
  obtain ⟨sh, sw, ts, bi, it, tu, ne, pr, so, lo, tr, n, lp, lz, lu, lk, ld, lf, lb, lw⟩ := u
  have hP : va_P D vwCl (XW a cI cZ cD sh sw ts bi it tu ne pr so lo (nI tr) (nI n) lp lz lu lk ld lf lb lw) s.heap := hP
  have hD0 : va_D (fun _ => True) (XW a cI cZ cD sh sw ts bi it tu ne pr so lo (nI tr) (nI n) lp lz lu lk ld lf lb lw) := hD0
  have hx := B.exec
  have hb := B.bytes
  have hr := B.returns
  have hts := atoms_spec (ws := wsL_does) B.pre
  have hown : s.vm.findClass RL = some m.cls := findClass_of_methodNamed B.named
  have hlocks := B.notSynchronized
  subst hsz
  have hD := hD0.self (sz := s.heap.size)
  generalize hAe : va_A (XU a cI cZ cD (sh, sw, ts, bi, it, tu, ne, pr, so, lo, tr, n, lp, lz, lu, lk, ld, lf, lb, lw)) s.heap.size = A at hE ⊢
  have hAe : va_A (XW a cI cZ cD sh sw ts bi it tu ne pr so lo (nI tr) (nI n) lp lz lu lk ld lf lb lw) s.heap.size = A := hAe
  rw [hAe] at hD
  have hA : ∀ q : Nat, s.heap.size ≤ q → A q := fun q h => by rw [← hAe]; exact Or.inr h
  have hS : va_S A s.heap s.heap [] := va_S.rf
  have hl := lv_entry ([.ref (a 0), .int (nI 3), .int x, .int y]) (n := 5) (Nat.le_of_ble_eq_true rfl)
  rw [lg_entry_eq]
  generalize (lg_sl ([.ref (a 0), .int (nI 3), .int x, .int y]) ++ List.replicate (5 - (lg_sl ([.ref (a 0), .int (nI 3), .int x, .int y])).length) Slot.unset).toArray = ls at hl ⊢
  have hl : lv_has ls 5 [(0, .ref (a 0)), (1, .int (nI 3)), (2, .int x), (3, .int y)] := hl
  refine lv_iload_n hx hb dL_does_0 rfl (lv_at hl 1 rfl) ?_
  refine lv_if_ne (tgt := 13) hx hb dL_does_1 (by decide) (fun c => ?_) (fun c => by first | exact absurd c (by decide) | exact absurd rfl c | exact (c (by decide)).elim)
  refine lv_iload_n hx hb dL_does_13 rfl (lv_at hl 1 rfl) ?_
  refine lv_iconst (v := nI 1) hx hb dL_does_14 (by decide) ?_
  refine lv_icmp_ne (tgt := 44) hx hb dL_does_15 (by decide) (fun c => ?_) (fun c => by first | exact absurd c (by decide) | exact absurd rfl c | exact (c (by decide)).elim)
  refine lv_iload_n hx hb dL_does_44 rfl (lv_at hl 1 rfl) ?_
  refine lv_iconst (v := nI 2) hx hb dL_does_45 (by decide) ?_
  refine lv_icmp_ne (tgt := 66) hx hb dL_does_46 (by decide) (fun c => ?_) (fun c => by first | exact absurd c (by decide) | exact absurd rfl c | exact (c (by decide)).elim)
  refine lv_iload_n hx hb dL_does_66 rfl (lv_at hl 1 rfl) ?_
  refine lv_iconst (v := nI 3) hx hb dL_does_67 (by decide) ?_
  refine lv_icmp_ne (tgt := 87) hx hb dL_does_68 (by decide) (fun c => by first | exact absurd c (by decide) | exact absurd rfl c | exact (c (by decide)).elim) (fun c => ?_)
  refine lv_aload_n hx hb dL_does_71 rfl (lv_at hl 0 rfl) ?_
  refine lv_iload_n hx hb dL_does_72 rfl (lv_at hl 2 rfl) ?_
  have hFc := va_free (wc := XW a cI cZ cD sh sw ts bi it tu ne pr so lo (nI tr) (nI n) lp lz lu lk ld lf lb lw) hD hS hA [0, 1, 2, 3, 4, 5, 6, 7, 8, 9, 10, 11, 12, 13, 14, 15, 16] rfl
  refine va_calliD hd0 (va_runV_D (As := [.int x]) (rest := []) ⟨hx, hb, hml, (xk_od hown), (dr_words hts _)⟩ (mX1_closeV l D cI cZ cD a _ sh sw ts bi it tu ne pr so lo lp lz lu lk ld lf lb lw n tr x hg.2 hok.2.1 hg.1 hok.2.2.2) (cwV 1 (dr_words hts _) gL_does_X1_close rfl rfl rfl (by decide +kernel) ⟨Nat.le_of_ble_eq_true rfl, Nat.le_of_ble_eq_true rfl⟩) ⟨xk_blind, va_recv (xk_Kd hK) hP (ci := 1) (q0 := 0) rfl rfl, xk_pre hP (xk_Kd hK) hD⟩ rfl rfl hl.1 rfl (lv_room (Nat.le_of_ble_eq_true rfl)) dL_does_73 ⟨Nat.le_of_ble_eq_true rfl, Nat.le_of_ble_eq_true rfl⟩) hS (fun q _ h => hFc q h) hFc (fun r u1 t H locs ht hvm hw hB hz1 hk1 hS _ hd1 => ?_)
  obtain ⟨z, rfl⟩ : ∃ z, z = u1 := ⟨_, rfl⟩
  obtain ⟨hP, -, hD1⟩ := hB
  rw [ht] at hP
  have hD := hD1.weaken (B := A) (fun _ _ _ h => hFc _ h)
  have hP : va_P D vwCl (XW a cI cZ cD sh sw z.1.1 z.2.2.2.2.2 (po 0 5 it (fun _ => 0)) tu z.1.2.2.1 pr z.2.1.2.2.1 z.1.2.2.2 (nI z.2.2.2.1) (nI (n + 1)) (vf_upd lp n pr) z.2.1.2.2.2 z.1.2.1 (po (5 * n) 5 lk it) z.2.1.1 z.2.1.2.1 z.2.2.1 z.2.2.2.2.1) H := hP
  have hD : va_D A (XW a cI cZ cD sh sw z.1.1 z.2.2.2.2.2 (po 0 5 it (fun _ => 0)) tu z.1.2.2.1 pr z.2.1.2.2.1 z.1.2.2.2 (nI z.2.2.2.1) (nI (n + 1)) (vf_upd lp n pr) z.2.1.2.2.2 z.1.2.1 (po (5 * n) 5 lk it) z.2.1.1 z.2.1.2.1 z.2.2.1 z.2.2.2.2.1) := hD
  obtain ⟨rfl, e1, e2, e3, e4, e5, e6, e7, e8, e9, e10⟩ := hw
  refine lv_if_eq (tgt := 83) hx hb dL_does_76 (by decide) (fun c => ?_) (fun c => ?_)
  · skip
    refine lv_iconst (v := nI 0) hx hb dL_does_83 (by decide) ?_
    refine lv_goto (tgt := 92) hx hb dL_does_84 (by decide) ?_
    have er : nI 0 = bI (over (cV (dat (sh, sw, ts, bi, it, tu, ne, pr, so, lo, tr, n, lp, lz, lu, lk, ld, lf, lb, lw)))) := c.symm
    have es : dat (sh, sw, z.1.1, z.2.2.2.2.2, po 0 5 it (fun _ => 0), tu, z.1.2.2.1, pr, z.2.1.2.2.1, z.1.2.2.2, z.2.2.2.1, (n + 1), vf_upd lp n pr, z.2.1.2.2.2, z.1.2.1, po (5 * n) 5 lk it, z.2.1.1, z.2.1.2.1, z.2.2.1, z.2.2.2.2.1) = closeS x (dat (sh, sw, ts, bi, it, tu, ne, pr, so, lo, tr, n, lp, lz, lu, lk, ld, lf, lb, lw)) := st_eq rfl rfl e1 rfl rfl rfl rfl e8 rfl e6 e10 (dts_up _ _ _) e5 e2 e3 e4 e7 e9
    refine W.endD hd1 ?_
    refine W.widen (k := 1) (n := 6) (Nat.zero_le _) (Nat.zero_le _) ?_
    exact W.iret hx hb hr (fun t ht hW => ⟨⟨_, (sh, sw, z.1.1, z.2.2.2.2.2, po 0 5 it (fun _ => 0), tu, z.1.2.2.1, pr, z.2.1.2.2.1, z.1.2.2.2, z.2.2.2.1, (n + 1), vf_upd lp n pr, z.2.1.2.2.2, z.1.2.1, po (5 * n) 5 lk it, z.2.1.1, z.2.1.2.1, z.2.2.1, z.2.2.2.2.1), rfl, (by unfold sCl; rw [if_pos hg, er, ← es]), by rw [ht]; exact hP, va_K.moved hW.alike (xk_Kd hK), hD⟩, hS.F ht⟩) hS.2.2 dL_does_92
  · skip
    refine lv_iconst (v := nI 1) hx hb dL_does_79 (by decide) ?_
    refine lv_goto (tgt := 92) hx hb dL_does_80 (by decide) ?_
    have er : nI 1 = bI (over (cV (dat (sh, sw, ts, bi, it, tu, ne, pr, so, lo, tr, n, lp, lz, lu, lk, ld, lf, lb, lw)))) := (bI_t (Decidable.of_not_not (fun z => c (bI_0.mpr z)))).symm
    have es : dat (sh, sw, z.1.1, z.2.2.2.2.2, po 0 5 it (fun _ => 0), tu, z.1.2.2.1, pr, z.2.1.2.2.1, z.1.2.2.2, z.2.2.2.1, (n + 1), vf_upd lp n pr, z.2.1.2.2.2, z.1.2.1, po (5 * n) 5 lk it, z.2.1.1, z.2.1.2.1, z.2.2.1, z.2.2.2.2.1) = closeS x (dat (sh, sw, ts, bi, it, tu, ne, pr, so, lo, tr, n, lp, lz, lu, lk, ld, lf, lb, lw)) := st_eq rfl rfl e1 rfl rfl rfl rfl e8 rfl e6 e10 (dts_up _ _ _) e5 e2 e3 e4 e7 e9
    refine W.endD hd1 ?_
    refine W.widen (k := 1) (n := 6) (Nat.zero_le _) (Nat.zero_le _) ?_
    exact W.iret hx hb hr (fun t ht hW => ⟨⟨_, (sh, sw, z.1.1, z.2.2.2.2.2, po 0 5 it (fun _ => 0), tu, z.1.2.2.1, pr, z.2.1.2.2.1, z.1.2.2.2, z.2.2.2.1, (n + 1), vf_upd lp n pr, z.2.1.2.2.2, z.1.2.1, po (5 * n) 5 lk it, z.2.1.1, z.2.1.2.1, z.2.2.1, z.2.2.2.2.1), rfl, (by unfold sCl; rw [if_pos hg, er, ← es]), by rw [ht]; exact hP, va_K.moved hW.alike (xk_Kd hK), hD⟩, hS.F ht⟩) hS.2.2 dL_does_92
