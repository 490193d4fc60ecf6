/-! looks, where the arguments are good -/
theorem sRe_eq {σ τ : St} {o q : Nat} {y : Int32} {d : Dm} (ho : o < 5) (hq : q < 60) (hg : gRe σ (nI o) (nI q) y) (ed : dMul (dSub (dI y) (s_ld σ (5 * q + o))) (s_lp σ q) = d) (h1 : s_sh τ = s_sh σ) (h2 : s_sw τ = s_sw σ) (h3 : s_ts τ = s_ts σ) (h4 : s_it τ = s_it σ) (h5 : s_tu τ = s_tu σ) (h6 : s_lk τ = upd (s_lk σ) (5 * q + o) 1) (h7 : s_n τ = s_n σ) (h8 : s_t τ = s_t σ) (h9 : s_pr τ = s_pr σ) (h10 : s_so τ = s_so σ) (h11 : s_bi τ = va_up (s_bi σ) o (dAdd (s_bi σ o) d)) (h12 : s_lp τ = s_lp σ) (h13 : s_lz τ = s_lz σ) (h14 : s_lu τ = va_up (s_lu σ) (5 * q + o) (dI y)) (h15 : s_ld τ = s_ld σ) (h16 : s_lf τ = s_lf σ) (h17 : s_lb τ = s_lb σ) (h18 : s_lw τ = s_lw σ) : (τ, d) = sRe σ (nI o) (nI q) y := by
  have e1 : (nI o).toNatClampNeg = o := nI_clamp (by omega)
  have e2 : (nI q).toNatClampNeg = q := nI_clamp (by omega)
  have ec : chg σ (nI o) (nI q) y = d := by
    unfold chg
    rw [e1, e2]
    exact ed
  unfold sRe
  rw [if_pos hg, ec, e1, e2]
  exact Prod.ext (st_eq h1 h2 h3 h4 h5 h6 h7 h8 h9 h10 h11 h12 h13 h14 h15 h16 h17 h18) rfl
theorem rd_eq {F : Nat → Dm} {f : Nat → UInt64} {σ : St} {o q : Nat} (ho : o < 5) (hq : q < 60) (hg : gRd σ (nI o) (nI q)) (e : F = dts f) : dt (f (5 * q + o)) = rd F σ (nI o) (nI q) := by
  have e1 : (nI o).toNatClampNeg = o := nI_clamp (by omega)
  have e2 : (nI q).toNatClampNeg = q := nI_clamp (by omega)
  unfold rd
  rw [if_pos hg, e1, e2, e]
  rfl
theorem rdZ_eq {f : Nat → UInt64} {σ : St} {q : Nat} (hq : q < 60) (hg : isQ (s_n σ) (nI q)) (e : s_lz σ = dts f) : dt (f q) = rdZ σ (nI q) := by
  have e2 : (nI q).toNatClampNeg = q := nI_clamp (by omega)
  unfold rdZ
  rw [if_pos hg, e2, e]
  rfl
set_option maxHeartbeats 4000000 in
set_option maxRecDepth 100000 in
theorem mL_looks0V (l : Launch) (hst : l.stackTraces = false) (D : va_G) (cI cZ cD : ClassId) (a : Nat → Nat) (sz : Nat) (u : Bt) (k : Nat) (y z : Int32) (hk : 1 ≤ k ∧ k < 5) (hg : gPr (nI k)) : Met l yL_looks wsL_looks ({ frames := 9, cells := 1, slots := 6, locals := 147 } : Room) (va_Pc [.ref (a 0), .int (nI 0), .int (nI k), .int y, .int z] (LQ D cI cZ cD (XU a cI cZ cD u) sz)) (va_Qd (fun (r : UInt64) (w : Bt) => (dat w, dt r) = sPr (dat u) (nI k)) (fun w t => XB D cI cZ cD (XU a cI cZ cD w) (va_A (XU a cI cZ cD u) sz) t) (va_A (XU a cI cZ cD u) sz)) 1 6 (va_A (XU a cI cZ cD u) sz) := by
  refine va_MetW (cc := cL_looks) (maxL := 6) (ret := (some .double)) (hh := [(0, 89, 90, 59), (0, 89, 96, 30), (0, 89, 102, 33)]) (by decide +kernel) rfl ?_
  intro p e s m args below meth c s₁ B hml hv
  obtain ⟨rfl, hsz, ⟨hP, hK, hD0⟩, hE, hN⟩ := hv
  obtain ⟨sh, sw, ts, bi, it, tu, ne, pr, so, lo, tr, n, lp, lz, lu, lk, ld, lf, lb, lw⟩ := u
  have hP : va_P D vwCl (XW a cI cZ cD sh sw ts bi it tu ne pr so lo (nI tr) (nI n) lp lz lu lk ld lf lb lw) s.heap := hP
  have hD0 : va_D (fun _ => True) (XW a cI cZ cD sh sw ts bi it tu ne pr so lo (nI tr) (nI n) lp lz lu lk ld lf lb lw) := hD0
  have hx := B.exec
  have hb := B.bytes
  have hr := B.returns
  have hts := atoms_spec (ws := wsL_looks) B.pre
  have hown : s.vm.findClass RL = some m.cls := findClass_of_methodNamed B.named
  have hlocks := B.notSynchronized
  subst hsz
  have hD := hD0.self (sz := s.heap.size)
  generalize hAe : va_A (XU a cI cZ cD (sh, sw, ts, bi, it, tu, ne, pr, so, lo, tr, n, lp, lz, lu, lk, ld, lf, lb, lw)) s.heap.size = A at hE ⊢
  have hAe : va_A (XW a cI cZ cD sh sw ts bi it tu ne pr so lo (nI tr) (nI n) lp lz lu lk ld lf lb lw) s.heap.size = A := hAe
  rw [hAe] at hD
  have hA : ∀ q : Nat, s.heap.size ≤ q → A q := fun q h => by rw [← hAe]; exact Or.inr h
  have hS : va_S A s.heap s.heap [] := va_S.rf
  have hl := lv_entry ([.ref (a 0), .int (nI 0), .int (nI k), .int y, .int z]) (n := 6) (Nat.le_of_ble_eq_true rfl)
  rw [lg_entry_eq]
  generalize (lg_sl ([.ref (a 0), .int (nI 0), .int (nI k), .int y, .int z]) ++ List.replicate (6 - (lg_sl ([.ref (a 0), .int (nI 0), .int (nI k), .int y, .int z])).length) Slot.unset).toArray = ls at hl ⊢
  have hl : lv_has ls 6 [(0, .ref (a 0)), (1, .int (nI 0)), (2, .int (nI k)), (3, .int y), (4, .int z)] := hl
  refine lv_iload_n hx hb dL_looks_0 rfl (lv_at hl 1 rfl) ?_
  refine lv_if_ne (tgt := 12) hx hb dL_looks_1 (by decide) (fun c => by first | exact absurd c (by decide) | exact absurd rfl c | exact (c (by decide)).elim) (fun c => ?_)
  refine lv_aload_n hx hb dL_looks_4 rfl (lv_at hl 0 rfl) ?_
  refine lv_iload_n hx hb dL_looks_5 rfl (lv_at hl 2 rfl) ?_
  have hFc := va_free (wc := XW a cI cZ cD sh sw ts bi it tu ne pr so lo (nI tr) (nI n) lp lz lu lk ld lf lb lw) hD hS hA [0, 1, 2, 3, 4, 5, 6, 7, 8, 9, 10, 11, 12, 13, 14, 15, 16] rfl
  refine va_calld (va_runV (As := [.int (nI k)]) (rest := []) ⟨hx, hb, hml, hown, hts⟩ (mX1_setPriceV l D cI cZ cD a _ sh sw ts bi it tu ne pr so lo (nI tr) (nI n) lp lz lu lk ld lf lb lw k hk) (cwV 1 hts gL_looks_X1_setPrice rfl rfl rfl (by decide +kernel) ⟨Nat.le_of_ble_eq_true rfl, Nat.le_of_ble_eq_true rfl⟩) ⟨xk_blind, va_recv hK hP (ci := 1) (q0 := 0) rfl rfl, xk_pre hP hK hD⟩ rfl rfl hl.1 rfl (lv_room (Nat.le_of_ble_eq_true rfl)) dL_looks_6 ⟨Nat.le_of_ble_eq_true rfl, Nat.le_of_ble_eq_true rfl⟩) hS (fun q _ h => hFc q h) hFc (fun r u1 t H locs ht hvm hw hB hz1 hk1 hS => ?_)
  obtain ⟨z, rfl⟩ : ∃ z, z = u1 := ⟨_, rfl⟩
  obtain ⟨hP, -, hD1⟩ := hB
  rw [ht] at hP
  have hD := hD1.weaken (B := A) (fun _ _ _ h => hFc _ h)
  have hP : va_P D vwCl (XW a cI cZ cD sh sw ts bi it tu ne (FP.ddiv (FP.i2d (nI k)) 4616189618054758400) so lo (nI tr) (nI n) lp lz lu lk ld lf lb lw) H := hP
  have hD : va_D A (XW a cI cZ cD sh sw ts bi it tu ne (FP.ddiv (FP.i2d (nI k)) 4616189618054758400) so lo (nI tr) (nI n) lp lz lu lk ld lf lb lw) := hD
  subst hw
  refine lv_goto (tgt := 89) hx hb dL_looks_9 (by decide) ?_
  refine W.widen (k := 1) (n := 6) (Nat.zero_le _) (Nat.zero_le _) ?_
  exact W.dret hx hb hr (fun t ht hW => ⟨⟨_, (sh, sw, ts, bi, it, tu, ne, FP.ddiv (FP.i2d (nI k)) 4616189618054758400, so, lo, tr, n, lp, lz, lu, lk, ld, lf, lb, lw), rfl, (by unfold sPr; rw [if_pos hg]; rfl), by rw [ht]; exact hP, va_K.moved hW.alike hK, hD⟩, hS.F ht⟩) hS.2.2 dL_looks_89
set_option maxHeartbeats 4000000 in
set_option maxRecDepth 100000 in
theorem mL_looks1V (l : Launch) (hst : l.stackTraces = false) (D : va_G) (cI cZ cD : ClassId) (a : Nat → Nat) (sz : Nat) (u : Bt) (o q : Nat) (y : Int32) (ho : o < 5) (hq : q < b_n u) (hok : Ok (dat u)) (hg : gRe (dat u) (nI o) (nI q) y) : MetD lw_cs l yL_looks wsL_looks ({ frames := 9, cells := 1, slots := 6, locals := 147 } : Room) (va_Pc [.ref (a 0), .int (nI 1), .int (nI o), .int (nI q), .int y] (LQ D cI cZ cD (XU a cI cZ cD u) sz)) (va_Qd (fun (r : UInt64) (w : Bt) => (dat w, dt r) = sRe (dat u) (nI o) (nI q) y) (fun w t => XB D cI cZ cD (XU a cI cZ cD w) (va_A (XU a cI cZ cD u) sz) t) (va_A (XU a cI cZ cD u) sz)) 1 6 (va_A (XU a cI cZ cD u) sz) := by
  refine xd_MetW (cc := cL_looks) (maxL := 6) (ret := (some .double)) (hh := [(0, 89, 90, 59), (0, 89, 96, 30), (0, 89, 102, 33)]) (by decide +kernel) rfl ?_
  intro p e s m args below meth c s₁ B hml hv hd0
  obtain ⟨rfl, hsz, ⟨hP, hK, hD0⟩, hE, hN⟩ := hv
  obtain ⟨sh, sw, ts, bi, it, tu, ne, pr, so, lo, tr, n, lp, lz, lu, lk, ld, lf, lb, lw⟩ := u
  have hP : va_P D vwCl (XW a cI cZ cD sh sw ts bi it tu ne pr so lo (nI tr) (nI n) lp lz lu lk ld lf lb lw) s.heap := hP
  have hD0 : va_D (fun _ => True) (XW a cI cZ cD sh sw ts bi it tu ne pr so lo (nI tr) (nI n) lp lz lu lk ld lf lb lw) := hD0
  have hx := B.exec
  have hb := B.bytes
  have hr := B.returns
  have hts := atoms_spec (ws := wsL_looks) B.pre
  have hown : s.vm.findClass RL = some m.cls := findClass_of_methodNamed B.named
  have hlocks := B.notSynchronized
  subst hsz
  have hD := hD0.self (sz := s.heap.size)
  generalize hAe : va_A (XU a cI cZ cD (sh, sw, ts, bi, it, tu, ne, pr, so, lo, tr, n, lp, lz, lu, lk, ld, lf, lb, lw)) s.heap.size = A at hE ⊢
  have hAe : va_A (XW a cI cZ cD sh sw ts bi it tu ne pr so lo (nI tr) (nI n) lp lz lu lk ld lf lb lw) s.heap.size = A := hAe
  rw [hAe] at hD
  have hA : ∀ q : Nat, s.heap.size ≤ q → A q := fun q h => by rw [← hAe]; exact Or.inr h
  have hS : va_S A s.heap s.heap [] := va_S.rf
  have hl := lv_entry ([.ref (a 0), .int (nI 1), .int (nI o), .int (nI q), .int y]) (n := 6) (Nat.le_of_ble_eq_true rfl)
  rw [lg_entry_eq]
  generalize (lg_sl ([.ref (a 0), .int (nI 1), .int (nI o), .int (nI q), .int y]) ++ List.replicate (6 - (lg_sl ([.ref (a 0), .int (nI 1), .int (nI o), .int (nI q), .int y])).length) Slot.unset).toArray = ls at hl ⊢
  have hl : lv_has ls 6 [(0, .ref (a 0)), (1, .int (nI 1)), (2, .int (nI o)), (3, .int (nI q)), (4, .int y)] := hl
  refine lv_iload_n hx hb dL_looks_0 rfl (lv_at hl 1 rfl) ?_
  refine lv_if_ne (tgt := 12) hx hb dL_looks_1 (by decide) (fun c => ?_) (fun c => by first | exact absurd c (by decide) | exact absurd rfl c | exact (c (by decide)).elim)
  refine lv_iload_n hx hb dL_looks_12 rfl (lv_at hl 1 rfl) ?_
  refine lv_iconst (v := nI 1) hx hb dL_looks_13 (by decide) ?_
  refine lv_icmp_ne (tgt := 28) hx hb dL_looks_14 (by decide) (fun c => by first | exact absurd c (by decide) | exact absurd rfl c | exact (c (by decide)).elim) (fun c => ?_)
  refine lv_aload_n hx hb dL_looks_17 rfl (lv_at hl 0 rfl) ?_
  refine lv_iload_n hx hb dL_looks_18 rfl (lv_at hl 2 rfl) ?_
  refine lv_iload_n hx hb dL_looks_19 rfl (lv_at hl 3 rfl) ?_
  refine lv_iload hx hb dL_looks_20 (lv_at hl 4 rfl) ?_
  have hn : n ≤ 60 := hok.1
  have hq : q < n := hq
  have hk0 : lk (5 * q + o) = 0 := Decidable.of_not_not (fun z => hg.2.2.2 ((kn_nI ho (by omega)).mpr z))
  have hFc := va_free (wc := XW a cI cZ cD sh sw ts bi it tu ne pr so lo (nI tr) (nI n) lp lz lu lk ld lf lb lw) hD hS hA [0, 1, 2, 3, 4, 5, 6, 7, 8, 9, 10, 11, 12, 13, 14, 15, 16] rfl
  refine va_calldD hd0 (va_runV_D (As := [.int (nI o), .int (nI q), .int y]) (rest := []) ⟨hx, hb, hml, (xk_od hown), (dr_words hts _)⟩ (mX1_replaceV l D cI cZ cD a _ sh sw ts bi it tu ne pr so lo (nI tr) lp lz lu lk ld lf lb lw n o q y hn ho hq hg.2.1 hk0) (cwV 3 (dr_words hts _) gL_looks_X1_replace rfl rfl rfl (by decide +kernel) ⟨Nat.le_of_ble_eq_true rfl, Nat.le_of_ble_eq_true rfl⟩) ⟨xk_blind, va_recv (xk_Kd hK) hP (ci := 1) (q0 := 0) rfl rfl, xk_pre hP (xk_Kd hK) hD⟩ rfl rfl hl.1 rfl (lv_room (Nat.le_of_ble_eq_true rfl)) dL_looks_22 ⟨Nat.le_of_ble_eq_true rfl, Nat.le_of_ble_eq_true rfl⟩) hS (fun q _ h => hFc q h) hFc (fun r u1 t H locs ht hvm hw hB hz1 hk1 hS _ hd1 => ?_)
  obtain ⟨z, rfl⟩ : ∃ z, z = u1 := ⟨_, rfl⟩
  obtain ⟨hP, -, hD1⟩ := hB
  rw [ht] at hP
  have hD := hD1.weaken (B := A) (fun _ _ _ h => hFc _ h)
  have hP : va_P D vwCl (XW a cI cZ cD sh sw ts z it tu ne pr so lo (nI tr) (nI n) lp lz (vf_upd lu (5 * q + o) (FP.i2d y)) (upd lk (5 * q + o) 1) ld lf lb lw) H := hP
  have hD : va_D A (XW a cI cZ cD sh sw ts z it tu ne pr so lo (nI tr) (nI n) lp lz (vf_upd lu (5 * q + o) (FP.i2d y)) (upd lk (5 * q + o) 1) ld lf lb lw) := hD
  obtain ⟨w1, w2⟩ := hw
  refine lv_goto (tgt := 89) hx hb dL_looks_25 (by decide) ?_
  refine W.endD hd1 ?_
  refine W.widen (k := 1) (n := 6) (Nat.zero_le _) (Nat.zero_le _) ?_
  exact W.dret hx hb hr (fun t ht hW => ⟨⟨_, (sh, sw, ts, z, it, tu, ne, pr, so, lo, tr, n, lp, lz, vf_upd lu (5 * q + o) (FP.i2d y), upd lk (5 * q + o) 1, ld, lf, lb, lw), rfl, (sRe_eq (σ := dat (sh, sw, ts, bi, it, tu, ne, pr, so, lo, tr, n, lp, lz, lu, lk, ld, lf, lb, lw)) ho (by omega) hg (by rw [show s_ld (dat (sh, sw, ts, bi, it, tu, ne, pr, so, lo, tr, n, lp, lz, lu, lk, ld, lf, lb, lw)) = dts ld from rfl, show s_lp (dat (sh, sw, ts, bi, it, tu, ne, pr, so, lo, tr, n, lp, lz, lu, lk, ld, lf, lb, lw)) = dts lp from rfl]; exact w1.symm) rfl rfl rfl rfl rfl rfl rfl rfl rfl rfl (by rw [show s_bi (dat (sh, sw, ts, bi, it, tu, ne, pr, so, lo, tr, n, lp, lz, lu, lk, ld, lf, lb, lw)) = dts bi from rfl, w1]; exact w2) rfl rfl (by rw [show s_lu (dat (sh, sw, ts, bi, it, tu, ne, pr, so, lo, tr, n, lp, lz, lu, lk, ld, lf, lb, lw)) = dts lu from rfl]; exact dts_up _ _ _) rfl rfl rfl rfl), by rw [ht]; exact hP, va_K.moved hW.alike (xk_Kd hK), hD⟩, hS.F ht⟩) hS.2.2 dL_looks_89
set_option maxHeartbeats 4000000 in
set_option maxRecDepth 100000 in
theorem mL_looks2V (l : Launch) (hst : l.stackTraces = false) (D : va_G) (cI cZ cD : ClassId) (a : Nat → Nat) (Hp : Heap) (u : Bt) (o q : Nat) (y : Int32) (ho : o < 5) (hq : q < b_n u) (hok : Ok (dat u)) (hg : gRd (dat u) (nI o) (nI q)) : Met l yL_looks wsL_looks ({ frames := 9, cells := 1, slots := 6, locals := 147 } : Room) (va_Pc [.ref (a 0), .int (nI 2), .int (nI o), .int (nI q), .int y] (ZQ D cI cZ cD (XU a cI cZ cD u) Hp)) (va_Qd (fun (r : UInt64) (_ : Unit) => dt r = rd (s_lu (dat u)) (dat u) (nI o) (nI q)) (fun _ _ => True) (fun q => Hp.size ≤ q)) 1 6 (fun q => Hp.size ≤ q) := by
  refine va_MetW (cc := cL_looks) (maxL := 6) (ret := (some .double)) (hh := [(0, 89, 90, 59), (0, 89, 96, 30), (0, 89, 102, 33)]) (by decide +kernel) rfl ?_
  intro p e s m args below meth c s₁ B hml hv
  obtain ⟨rfl, hsz, ⟨hP, hK, hD0⟩, hE, hN⟩ := hv
  obtain ⟨sh, sw, ts, bi, it, tu, ne, pr, so, lo, tr, n, lp, lz, lu, lk, ld, lf, lb, lw⟩ := u
  have hP : va_P D vwCl (XW a cI cZ cD sh sw ts bi it tu ne pr so lo (nI tr) (nI n) lp lz lu lk ld lf lb lw) s.heap := hP
  have hD0 : va_D (fun _ => True) (XW a cI cZ cD sh sw ts bi it tu ne pr so lo (nI tr) (nI n) lp lz lu lk ld lf lb lw) := hD0
  have hx := B.exec
  have hb := B.bytes
  have hr := B.returns
  have hts := atoms_spec (ws := wsL_looks) B.pre
  have hown : s.vm.findClass RL = some m.cls := findClass_of_methodNamed B.named
  have hlocks := B.notSynchronized
  subst hsz
  have hD := hD0
  have hA : ∀ q : Nat, s.heap.size ≤ q → (fun q => s.heap.size ≤ q) q := fun q h => h
  have hS : va_S (fun q => s.heap.size ≤ q) s.heap s.heap [] := va_S.rf
  have hl := lv_entry ([.ref (a 0), .int (nI 2), .int (nI o), .int (nI q), .int y]) (n := 6) (Nat.le_of_ble_eq_true rfl)
  rw [lg_entry_eq]
  generalize (lg_sl ([.ref (a 0), .int (nI 2), .int (nI o), .int (nI q), .int y]) ++ List.replicate (6 - (lg_sl ([.ref (a 0), .int (nI 2), .int (nI o), .int (nI q), .int y])).length) Slot.unset).toArray = ls at hl ⊢
  have hl : lv_has ls 6 [(0, .ref (a 0)), (1, .int (nI 2)), (2, .int (nI o)), (3, .int (nI q)), (4, .int y)] := hl
  refine lv_iload_n hx hb dL_looks_0 rfl (lv_at hl 1 rfl) ?_
  refine lv_if_ne (tgt := 12) hx hb dL_looks_1 (by decide) (fun c => ?_) (fun c => by first | exact absurd c (by decide) | exact absurd rfl c | exact (c (by decide)).elim)
  refine lv_iload_n hx hb dL_looks_12 rfl (lv_at hl 1 rfl) ?_
  refine lv_iconst (v := nI 1) hx hb dL_looks_13 (by decide) ?_
  refine lv_icmp_ne (tgt := 28) hx hb dL_looks_14 (by decide) (fun c => ?_) (fun c => by first | exact absurd c (by decide) | exact absurd rfl c | exact (c (by decide)).elim)
  refine lv_iload_n hx hb dL_looks_28 rfl (lv_at hl 1 rfl) ?_
  refine lv_iconst (v := nI 2) hx hb dL_looks_29 (by decide) ?_
  refine lv_icmp_ne (tgt := 42) hx hb dL_looks_30 (by decide) (fun c => by first | exact absurd c (by decide) | exact absurd rfl c | exact (c (by decide)).elim) (fun c => ?_)
  refine lv_aload_n hx hb dL_looks_33 rfl (lv_at hl 0 rfl) ?_
  refine lv_iload_n hx hb dL_looks_34 rfl (lv_at hl 2 rfl) ?_
  refine lv_iload_n hx hb dL_looks_35 rfl (lv_at hl 3 rfl) ?_
  have hn : n ≤ 60 := hok.1
  have hq : q < n := hq
  refine vp_callSd (va_Run.run (va_runV (As := [.int (nI o), .int (nI q)]) (rest := []) ⟨hx, hb, hml, hown, hts⟩ (mX1_useV l D cI cZ cD a _ sh sw ts bi it tu ne pr so lo (nI tr) lp lz lu lk ld lf lb lw n o q hn ho hq) (cwV 2 hts gL_looks_X1_use rfl rfl rfl (by decide +kernel) ⟨Nat.le_of_ble_eq_true rfl, Nat.le_of_ble_eq_true rfl⟩) ⟨xk_blind, va_recv hK hP (ci := 1) (q0 := 0) rfl rfl, xk_pre hP hK hD⟩ rfl rfl hl.1 rfl (lv_room (Nat.le_of_ble_eq_true rfl)) dL_looks_36 ⟨Nat.le_of_ble_eq_true rfl, Nat.le_of_ble_eq_true rfl⟩)) (fun r hr1 => ?_)
  subst hr1
  refine lv_goto (tgt := 89) hx hb dL_looks_39 (by decide) ?_
  refine W.widen (k := 1) (n := 6) (Nat.zero_le _) (Nat.zero_le _) ?_
  exact W.dret hx hb hr (fun t ht hW => ⟨⟨_, (), rfl, (rd_eq ho (by omega) hg rfl), trivial⟩, hS.F ht⟩) hS.2.2 dL_looks_89
set_option maxHeartbeats 4000000 in
set_option maxRecDepth 100000 in
theorem mL_looks3V (l : Launch) (hst : l.stackTraces = false) (D : va_G) (cI cZ cD : ClassId) (a : Nat → Nat) (Hp : Heap) (u : Bt) (o q : Nat) (y : Int32) (ho : o < 5) (hq : q < b_n u) (hok : Ok (dat u)) (hg : gRd (dat u) (nI o) (nI q)) : Met l yL_looks wsL_looks ({ frames := 9, cells := 1, slots := 6, locals := 147 } : Room) (va_Pc [.ref (a 0), .int (nI 3), .int (nI o), .int (nI q), .int y] (ZQ D cI cZ cD (XU a cI cZ cD u) Hp)) (va_Qd (fun (r : UInt64) (_ : Unit) => dt r = rd (s_lf (dat u)) (dat u) (nI o) (nI q)) (fun _ _ => True) (fun q => Hp.size ≤ q)) 1 6 (fun q => Hp.size ≤ q) := by
  refine va_MetW (cc := cL_looks) (maxL := 6) (ret := (some .double)) (hh := [(0, 89, 90, 59), (0, 89, 96, 30), (0, 89, 102, 33)]) (by decide +kernel) rfl ?_
  intro p e s m args below meth c s₁ B hml hv
  obtain ⟨rfl, hsz, ⟨hP, hK, hD0⟩, hE, hN⟩ := hv
  obtain ⟨sh, sw, ts, bi, it, tu, ne, pr, so, lo, tr, n, lp, lz, lu, lk, ld, lf, lb, lw⟩ := u
  have hP : va_P D vwCl (XW a cI cZ cD sh sw ts bi it tu ne pr so lo (nI tr) (nI n) lp lz lu lk ld lf lb lw) s.heap := hP
  have hD0 : va_D (fun _ => True) (XW a cI cZ cD sh sw ts bi it tu ne pr so lo (nI tr) (nI n) lp lz lu lk ld lf lb lw) := hD0
  have hx := B.exec
  have hb := B.bytes
  have hr := B.returns
  have hts := atoms_spec (ws := wsL_looks) B.pre
  have hown : s.vm.findClass RL = some m.cls := findClass_of_methodNamed B.named
  have hlocks := B.notSynchronized
  subst hsz
  have hD := hD0
  have hA : ∀ q : Nat, s.heap.size ≤ q → (fun q => s.heap.size ≤ q) q := fun q h => h
  have hS : va_S (fun q => s.heap.size ≤ q) s.heap s.heap [] := va_S.rf
  have hl := lv_entry ([.ref (a 0), .int (nI 3), .int (nI o), .int (nI q), .int y]) (n := 6) (Nat.le_of_ble_eq_true rfl)
  rw [lg_entry_eq]
  generalize (lg_sl ([.ref (a 0), .int (nI 3), .int (nI o), .int (nI q), .int y]) ++ List.replicate (6 - (lg_sl ([.ref (a 0), .int (nI 3), .int (nI o), .int (nI q), .int y])).length) Slot.unset).toArray = ls at hl ⊢
  have hl : lv_has ls 6 [(0, .ref (a 0)), (1, .int (nI 3)), (2, .int (nI o)), (3, .int (nI q)), (4, .int y)] := hl
  refine lv_iload_n hx hb dL_looks_0 rfl (lv_at hl 1 rfl) ?_
  refine lv_if_ne (tgt := 12) hx hb dL_looks_1 (by decide) (fun c => ?_) (fun c => by first | exact absurd c (by decide) | exact absurd rfl c | exact (c (by decide)).elim)
  refine lv_iload_n hx hb dL_looks_12 rfl (lv_at hl 1 rfl) ?_
  refine lv_iconst (v := nI 1) hx hb dL_looks_13 (by decide) ?_
  refine lv_icmp_ne (tgt := 28) hx hb dL_looks_14 (by decide) (fun c => ?_) (fun c => by first | exact absurd c (by decide) | exact absurd rfl c | exact (c (by decide)).elim)
  refine lv_iload_n hx hb dL_looks_28 rfl (lv_at hl 1 rfl) ?_
  refine lv_iconst (v := nI 2) hx hb dL_looks_29 (by decide) ?_
  refine lv_icmp_ne (tgt := 42) hx hb dL_looks_30 (by decide) (fun c => ?_) (fun c => by first | exact absurd c (by decide) | exact absurd rfl c | exact (c (by decide)).elim)
  refine lv_iload_n hx hb dL_looks_42 rfl (lv_at hl 1 rfl) ?_
  refine lv_iconst (v := nI 3) hx hb dL_looks_43 (by decide) ?_
  refine lv_icmp_ne (tgt := 56) hx hb dL_looks_44 (by decide) (fun c => by first | exact absurd c (by decide) | exact absurd rfl c | exact (c (by decide)).elim) (fun c => ?_)
  refine lv_aload_n hx hb dL_looks_47 rfl (lv_at hl 0 rfl) ?_
  refine lv_iload_n hx hb dL_looks_48 rfl (lv_at hl 2 rfl) ?_
  refine lv_iload_n hx hb dL_looks_49 rfl (lv_at hl 3 rfl) ?_
  have hn : n ≤ 60 := hok.1
  have hq : q < n := hq
  refine vp_callSd (va_Run.run (va_runV (As := [.int (nI o), .int (nI q)]) (rest := []) ⟨hx, hb, hml, hown, hts⟩ (mX1_fromSunV l D cI cZ cD a _ sh sw ts bi it tu ne pr so lo (nI tr) lp lz lu lk ld lf lb lw n o q hn ho hq) (cwV 2 hts gL_looks_X1_fromSun rfl rfl rfl (by decide +kernel) ⟨Nat.le_of_ble_eq_true rfl, Nat.le_of_ble_eq_true rfl⟩) ⟨xk_blind, va_recv hK hP (ci := 1) (q0 := 0) rfl rfl, xk_pre hP hK hD⟩ rfl rfl hl.1 rfl (lv_room (Nat.le_of_ble_eq_true rfl)) dL_looks_50 ⟨Nat.le_of_ble_eq_true rfl, Nat.le_of_ble_eq_true rfl⟩)) (fun r hr1 => ?_)
  subst hr1
  refine lv_goto (tgt := 89) hx hb dL_looks_53 (by decide) ?_
  refine W.widen (k := 1) (n := 6) (Nat.zero_le _) (Nat.zero_le _) ?_
  exact W.dret hx hb hr (fun t ht hW => ⟨⟨_, (), rfl, (rd_eq ho (by omega) hg rfl), trivial⟩, hS.F ht⟩) hS.2.2 dL_looks_89
set_option maxHeartbeats 4000000 in
set_option maxRecDepth 100000 in
theorem mL_looks5V (l : Launch) (hst : l.stackTraces = false) (D : va_G) (cI cZ cD : ClassId) (a : Nat → Nat) (Hp : Heap) (u : Bt) (o q : Nat) (y : Int32) (ho : o < 5) (hq : q < b_n u) (hok : Ok (dat u)) (hg : gRd (dat u) (nI o) (nI q)) : Met l yL_looks wsL_looks ({ frames := 9, cells := 1, slots := 6, locals := 147 } : Room) (va_Pc [.ref (a 0), .int (nI 5), .int (nI o), .int (nI q), .int y] (ZQ D cI cZ cD (XU a cI cZ cD u) Hp)) (va_Qd (fun (r : UInt64) (_ : Unit) => dt r = rd (s_lw (dat u)) (dat u) (nI o) (nI q)) (fun _ _ => True) (fun q => Hp.size ≤ q)) 1 6 (fun q => Hp.size ≤ q) := by
  refine va_MetW (cc := cL_looks) (maxL := 6) (ret := (some .double)) (hh := [(0, 89, 90, 59), (0, 89, 96, 30), (0, 89, 102, 33)]) (by decide +kernel) rfl ?_
  intro p e s m args below meth c s₁ B hml hv
  obtain ⟨rfl, hsz, ⟨hP, hK, hD0⟩, hE, hN⟩ := hv
  obtain ⟨sh, sw, ts, bi, it, tu, ne, pr, so, lo, tr, n, lp, lz, lu, lk, ld, lf, lb, lw⟩ := u
  have hP : va_P D vwCl (XW a cI cZ cD sh sw ts bi it tu ne pr so lo (nI tr) (nI n) lp lz lu lk ld lf lb lw) s.heap := hP
  have hD0 : va_D (fun _ => True) (XW a cI cZ cD sh sw ts bi it tu ne pr so lo (nI tr) (nI n) lp lz lu lk ld lf lb lw) := hD0
  have hx := B.exec
  have hb := B.bytes
  have hr := B.returns
  have hts := atoms_spec (ws := wsL_looks) B.pre
  have hown : s.vm.findClass RL = some m.cls := findClass_of_methodNamed B.named
  have hlocks := B.notSynchronized
  subst hsz
  have hD := hD0
  have hA : ∀ q : Nat, s.heap.size ≤ q → (fun q => s.heap.size ≤ q) q := fun q h => h
  have hS : va_S (fun q => s.heap.size ≤ q) s.heap s.heap [] := va_S.rf
  have hl := lv_entry ([.ref (a 0), .int (nI 5), .int (nI o), .int (nI q), .int y]) (n := 6) (Nat.le_of_ble_eq_true rfl)
  rw [lg_entry_eq]
  generalize (lg_sl ([.ref (a 0), .int (nI 5), .int (nI o), .int (nI q), .int y]) ++ List.replicate (6 - (lg_sl ([.ref (a 0), .int (nI 5), .int (nI o), .int (nI q), .int y])).length) Slot.unset).toArray = ls at hl ⊢
  have hl : lv_has ls 6 [(0, .ref (a 0)), (1, .int (nI 5)), (2, .int (nI o)), (3, .int (nI q)), (4, .int y)] := hl
  refine lv_iload_n hx hb dL_looks_0 rfl (lv_at hl 1 rfl) ?_
  refine lv_if_ne (tgt := 12) hx hb dL_looks_1 (by decide) (fun c => ?_) (fun c => by first | exact absurd c (by decide) | exact absurd rfl c | exact (c (by decide)).elim)
  refine lv_iload_n hx hb dL_looks_12 rfl (lv_at hl 1 rfl) ?_
  refine lv_iconst (v := nI 1) hx hb dL_looks_13 (by decide) ?_
  refine lv_icmp_ne (tgt := 28) hx hb dL_looks_14 (by decide) (fun c => ?_) (fun c => by first | exact absurd c (by decide) | exact absurd rfl c | exact (c (by decide)).elim)
  refine lv_iload_n hx hb dL_looks_28 rfl (lv_at hl 1 rfl) ?_
  refine lv_iconst (v := nI 2) hx hb dL_looks_29 (by decide) ?_
  refine lv_icmp_ne (tgt := 42) hx hb dL_looks_30 (by decide) (fun c => ?_) (fun c => by first | exact absurd c (by decide) | exact absurd rfl c | exact (c (by decide)).elim)
  refine lv_iload_n hx hb dL_looks_42 rfl (lv_at hl 1 rfl) ?_
  refine lv_iconst (v := nI 3) hx hb dL_looks_43 (by decide) ?_
  refine lv_icmp_ne (tgt := 56) hx hb dL_looks_44 (by decide) (fun c => ?_) (fun c => by first | exact absurd c (by decide) | exact absurd rfl c | exact (c (by decide)).elim)
  refine lv_iload_n hx hb dL_looks_56 rfl (lv_at hl 1 rfl) ?_
  refine lv_iconst (v := nI 4) hx hb dL_looks_57 (by decide) ?_
  refine lv_icmp_ne (tgt := 70) hx hb dL_looks_58 (by decide) (fun c => ?_) (fun c => by first | exact absurd c (by decide) | exact absurd rfl c | exact (c (by decide)).elim)
  refine lv_iload_n hx hb dL_looks_70 rfl (lv_at hl 1 rfl) ?_
  refine lv_iconst (v := nI 5) hx hb dL_looks_71 (by decide) ?_
  refine lv_icmp_ne (tgt := 84) hx hb dL_looks_72 (by decide) (fun c => by first | exact absurd c (by decide) | exact absurd rfl c | exact (c (by decide)).elim) (fun c => ?_)
  refine lv_aload_n hx hb dL_looks_75 rfl (lv_at hl 0 rfl) ?_
  refine lv_iload_n hx hb dL_looks_76 rfl (lv_at hl 2 rfl) ?_
  refine lv_iload_n hx hb dL_looks_77 rfl (lv_at hl 3 rfl) ?_
  have hn : n ≤ 60 := hok.1
  have hq : q < n := hq
  refine vp_callSd (va_Run.run (va_runV (As := [.int (nI o), .int (nI q)]) (rest := []) ⟨hx, hb, hml, hown, hts⟩ (mX1_boughtV l D cI cZ cD a _ sh sw ts bi it tu ne pr so lo (nI tr) lp lz lu lk ld lf lb lw n o q hn ho hq) (cwV 2 hts gL_looks_X1_bought rfl rfl rfl (by decide +kernel) ⟨Nat.le_of_ble_eq_true rfl, Nat.le_of_ble_eq_true rfl⟩) ⟨xk_blind, va_recv hK hP (ci := 1) (q0 := 0) rfl rfl, xk_pre hP hK hD⟩ rfl rfl hl.1 rfl (lv_room (Nat.le_of_ble_eq_true rfl)) dL_looks_78 ⟨Nat.le_of_ble_eq_true rfl, Nat.le_of_ble_eq_true rfl⟩)) (fun r hr1 => ?_)
  subst hr1
  refine lv_goto (tgt := 89) hx hb dL_looks_81 (by decide) ?_
  refine W.widen (k := 1) (n := 6) (Nat.zero_le _) (Nat.zero_le _) ?_
  exact W.dret hx hb hr (fun t ht hW => ⟨⟨_, (), rfl, (rd_eq ho (by omega) hg rfl), trivial⟩, hS.F ht⟩) hS.2.2 dL_looks_89
set_option maxHeartbeats 4000000 in
set_option maxRecDepth 100000 in
theorem mL_looks6V (l : Launch) (hst : l.stackTraces = false) (D : va_G) (cI cZ cD : ClassId) (a : Nat → Nat) (Hp : Heap) (u : Bt) (q : Nat) (y z : Int32) (hq : q < b_n u) (hok : Ok (dat u)) (hg : isQ (s_n (dat u)) (nI q)) : Met l yL_looks wsL_looks ({ frames := 9, cells := 1, slots := 6, locals := 147 } : Room) (va_Pc [.ref (a 0), .int (nI 6), .int (nI q), .int y, .int z] (ZQ D cI cZ cD (XU a cI cZ cD u) Hp)) (va_Qd (fun (r : UInt64) (_ : Unit) => dt r = rdZ (dat u) (nI q)) (fun _ _ => True) (fun q => Hp.size ≤ q)) 1 6 (fun q => Hp.size ≤ q) := by
  refine va_MetW (cc := cL_looks) (maxL := 6) (ret := (some .double)) (hh := [(0, 89, 90, 59), (0, 89, 96, 30), (0, 89, 102, 33)]) (by decide +kernel) rfl ?_
  intro p e s m args below meth c s₁ B hml hv
  obtain ⟨rfl, hsz, ⟨hP, hK, hD0⟩, hE, hN⟩ := hv
  obtain ⟨sh, sw, ts, bi, it, tu, ne, pr, so, lo, tr, n, lp, lz, lu, lk, ld, lf, lb, lw⟩ := u
  have hP : va_P D vwCl (XW a cI cZ cD sh sw ts bi it tu ne pr so lo (nI tr) (nI n) lp lz lu lk ld lf lb lw) s.heap := hP
  have hD0 : va_D (fun _ => True) (XW a cI cZ cD sh sw ts bi it tu ne pr so lo (nI tr) (nI n) lp lz lu lk ld lf lb lw) := hD0
  have hx := B.exec
  have hb := B.bytes
  have hr := B.returns
  have hts := atoms_spec (ws := wsL_looks) B.pre
  have hown : s.vm.findClass RL = some m.cls := findClass_of_methodNamed B.named
  have hlocks := B.notSynchronized
  subst hsz
  have hD := hD0
  have hA : ∀ q : Nat, s.heap.size ≤ q → (fun q => s.heap.size ≤ q) q := fun q h => h
  have hS : va_S (fun q => s.heap.size ≤ q) s.heap s.heap [] := va_S.rf
  have hl := lv_entry ([.ref (a 0), .int (nI 6), .int (nI q), .int y, .int z]) (n := 6) (Nat.le_of_ble_eq_true rfl)
  rw [lg_entry_eq]
  generalize (lg_sl ([.ref (a 0), .int (nI 6), .int (nI q), .int y, .int z]) ++ List.replicate (6 - (lg_sl ([.ref (a 0), .int (nI 6), .int (nI q), .int y, .int z])).length) Slot.unset).toArray = ls at hl ⊢
  have hl : lv_has ls 6 [(0, .ref (a 0)), (1, .int (nI 6)), (2, .int (nI q)), (3, .int y), (4, .int z)] := hl
  refine lv_iload_n hx hb dL_looks_0 rfl (lv_at hl 1 rfl) ?_
  refine lv_if_ne (tgt := 12) hx hb dL_looks_1 (by decide) (fun c => ?_) (fun c => by first | exact absurd c (by decide) | exact absurd rfl c | exact (c (by decide)).elim)
  refine lv_iload_n hx hb dL_looks_12 rfl (lv_at hl 1 rfl) ?_
  refine lv_iconst (v := nI 1) hx hb dL_looks_13 (by decide) ?_
  refine lv_icmp_ne (tgt := 28) hx hb dL_looks_14 (by decide) (fun c => ?_) (fun c => by first | exact absurd c (by decide) | exact absurd rfl c | exact (c (by decide)).elim)
  refine lv_iload_n hx hb dL_looks_28 rfl (lv_at hl 1 rfl) ?_
  refine lv_iconst (v := nI 2) hx hb dL_looks_29 (by decide) ?_
  refine lv_icmp_ne (tgt := 42) hx hb dL_looks_30 (by decide) (fun c => ?_) (fun c => by first | exact absurd c (by decide) | exact absurd rfl c | exact (c (by decide)).elim)
  refine lv_iload_n hx hb dL_looks_42 rfl (lv_at hl 1 rfl) ?_
  refine lv_iconst (v := nI 3) hx hb dL_looks_43 (by decide) ?_
  refine lv_icmp_ne (tgt := 56) hx hb dL_looks_44 (by decide) (fun c => ?_) (fun c => by first | exact absurd c (by decide) | exact absurd rfl c | exact (c (by decide)).elim)
  refine lv_iload_n hx hb dL_looks_56 rfl (lv_at hl 1 rfl) ?_
  refine lv_iconst (v := nI 4) hx hb dL_looks_57 (by decide) ?_
  refine lv_icmp_ne (tgt := 70) hx hb dL_looks_58 (by decide) (fun c => ?_) (fun c => by first | exact absurd c (by decide) | exact absurd rfl c | exact (c (by decide)).elim)
  refine lv_iload_n hx hb dL_looks_70 rfl (lv_at hl 1 rfl) ?_
  refine lv_iconst (v := nI 5) hx hb dL_looks_71 (by decide) ?_
  refine lv_icmp_ne (tgt := 84) hx hb dL_looks_72 (by decide) (fun c => ?_) (fun c => by first | exact absurd c (by decide) | exact absurd rfl c | exact (c (by decide)).elim)
  refine lv_aload_n hx hb dL_looks_84 rfl (lv_at hl 0 rfl) ?_
  refine lv_iload_n hx hb dL_looks_85 rfl (lv_at hl 2 rfl) ?_
  have hn : n ≤ 60 := hok.1
  have hq : q < n := hq
  refine vp_callSd (va_Run.run (va_runV (As := [.int (nI q)]) (rest := []) ⟨hx, hb, hml, hown, hts⟩ (mX1_soldV l D cI cZ cD a _ sh sw ts bi it tu ne pr so lo (nI tr) lp lz lu lk ld lf lb lw n q hn hq) (cwV 1 hts gL_looks_X1_sold rfl rfl rfl (by decide +kernel) ⟨Nat.le_of_ble_eq_true rfl, Nat.le_of_ble_eq_true rfl⟩) ⟨xk_blind, va_recv hK hP (ci := 1) (q0 := 0) rfl rfl, xk_pre hP hK hD⟩ rfl rfl hl.1 rfl (lv_room (Nat.le_of_ble_eq_true rfl)) dL_looks_86 ⟨Nat.le_of_ble_eq_true rfl, Nat.le_of_ble_eq_true rfl⟩)) (fun r hr1 => ?_)
  subst hr1
  refine W.widen (k := 1) (n := 6) (Nat.zero_le _) (Nat.zero_le _) ?_
  exact W.dret hx hb hr (fun t ht hW => ⟨⟨_, (), rfl, (rdZ_eq (by omega) hg rfl), trivial⟩, hS.F ht⟩) hS.2.2 dL_looks_89
