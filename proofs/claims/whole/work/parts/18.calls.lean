/-! THE LAW'S CALLS: each hands on what GridCommons answers, or says which exception came -/
abbrev T4 (cI cZ cD cJ : ClassId) : List (ClassId × FieldType) := [(cI, .int), (cZ, .boolean), (cD, .double), (cJ, .long)]
abbrev YB (D : va_G) (cI cZ cD cJ : ClassId) (w : va_W) (A : Nat → Prop) (t : State) : Prop := va_P D vwCl w t.heap ∧ va_K D vwCl (T4 cI cZ cD cJ) t ∧ va_D A w
abbrev YP (D : va_G) (cI cZ cD cJ : ClassId) (w : va_W) (sz : Nat) (U : State) : Prop := U.heap.size = sz ∧ YB D cI cZ cD cJ w (fun _ => True) U
theorem yk_blind {av : List Value} {D : va_G} {cI cZ cD cJ : ClassId} {w : va_W} {sz : Nat} : FrameBlind (va_Pc av (YP D cI cZ cD cJ w sz)) := fun a U g mk q => by
  obtain ⟨q0, q1, qP, qK, qD⟩ := q
  exact ⟨q0, q1, qP, va_K.moved (u := U) (U := U.calling g mk a) (Vm.Alike.refl U.vm) qK, qD⟩
theorem yk_pre {av : List Value} {D : va_G} {cI cZ cD cJ : ClassId} {w : va_W} {A : Nat → Prop} {H : Heap} {s : State} (hP : va_P D vwCl w H) (hK : va_K D vwCl (T4 cI cZ cD cJ) s) (hD : va_D A w) : ∀ U : State, U.heap = H → s.WarmedH U.vm → va_Pc av (YP D cI cZ cD cJ w H.size) av.toArray U :=
  fun U hU hW => ⟨rfl, by rw [hU], by rw [hU]; exact hP, va_K.moved hW.alike hK, hD.weaken (fun _ _ _ _ => trivial)⟩
theorem yk_Kd {D : va_G} {cl : List vw_C} {tys : List (ClassId × FieldType)} {s : State} {d : Drawn} (h : va_K D cl tys s) : va_K D cl tys (s.setDrawn d) := xk_Kd h
/-- which handlers pass by which exceptions -/
def EN (U : State) : Prop := va_Nc "java/lang/IndexOutOfBoundsException" "java/lang/IllegalArgumentException" U ∧ va_Nc "java/lang/IllegalStateException" "java/lang/IllegalArgumentException" U ∧ va_Nc "java/lang/IllegalStateException" "java/lang/IndexOutOfBoundsException" U
theorem EN.moved {u U : State} (hvm : u.vm.Alike U.vm) (h : EN u) : EN U := ⟨h.1.moved hvm, h.2.1.moved hvm, h.2.2.moved hvm⟩
abbrev ZQ (D : va_G) (cI cZ cD : ClassId) (w : va_W) (Hp : Heap) (U : State) : Prop := U.heap = Hp ∧ XB D cI cZ cD w (fun _ => True) U ∧ EX (fun q => Hp.size ≤ q) U U.heap ∧ EN U
theorem zq_blind {av : List Value} {D : va_G} {cI cZ cD : ClassId} {w : va_W} {Hp : Heap} : FrameBlind (va_Pc av (ZQ D cI cZ cD w Hp)) := fun a U g mk q => by
  obtain ⟨q0, q1, ⟨qP, qK, qD⟩, q2, q3⟩ := q
  exact ⟨q0, q1, ⟨qP, va_K.moved (u := U) (U := U.calling g mk a) (Vm.Alike.refl U.vm) qK, qD⟩, q2.blind, q3.moved (Vm.Alike.refl U.vm)⟩
theorem zq_pre {av : List Value} {D : va_G} {cI cZ cD : ClassId} {w : va_W} {A A1 : Nat → Prop} {H : Heap} {s : State} {locs : List Loc} (hP : va_P D vwCl w H) (hK : va_K D vwCl (T3 cI cZ cD) s) (hD : va_D A1 w) (hE : EX A s s.heap) (hN : EN s) (hS : va_S A s.heap H locs) (hA : ∀ q, s.heap.size ≤ q → A q) : ∀ U : State, U.heap = H → s.WarmedH U.vm → va_Pc av (ZQ D cI cZ cD w H) av.toArray U :=
  fun U hU hW => ⟨rfl, hU, ⟨by rw [hU]; exact hP, va_K.moved hW.alike hK, hD.weaken (fun _ _ _ _ => trivial)⟩, hE.pass hS hU hW (fun q hq => hA q (Nat.le_trans hS.1 hq)), hN.moved hW.alike⟩
abbrev XWJ (o9 : Nat) (cJ : ClassId) (a : Nat → Nat) (cI cZ cD : ClassId) (sh sw ts : Nat → Int32) (bi : Nat → UInt64) (it tu : Nat → Int32) (ne : Nat → UInt64) (pr so lo : UInt64) (wt cn : Int32) (lp lz lu : Nat → UInt64) (lk : Nat → Int32) (ld lf lb lw : Nat → UInt64) (fo : Nat → Int64) : va_W := XW a cI cZ cD sh sw ts bi it tu ne pr so lo wt cn lp lz lu lk ld lf lb lw ++ [(o9, .inl (cJ, 1, .inr (.inl fo)))]
abbrev XWD (o9 : Nat) (a : Nat → Nat) (cI cZ cD : ClassId) (sh sw ts : Nat → Int32) (bi : Nat → UInt64) (it tu : Nat → Int32) (ne : Nat → UInt64) (pr so lo : UInt64) (wt cn : Int32) (lp lz lu : Nat → UInt64) (lk : Nat → Int32) (ld lf lb lw : Nat → UInt64) (fo : Nat → UInt64) : va_W := XW a cI cZ cD sh sw ts bi it tu ne pr so lo wt cn lp lz lu lk ld lf lb lw ++ [(o9, .inl (cD, 1, .inr (.inr (.inr (.inl fo)))))]
/-- a boolean as a long -/
def bL (r : Int32) : Int64 := if r = 0 then 0 else 1
set_option maxHeartbeats 4000000 in
set_option maxRecDepth 100000 in
theorem mL_setShareV (l : Launch) (D : va_G) (cI cZ cD cJ : ClassId) (a : Nat → Nat) (o9 sz : Nat) (sh sw ts : Nat → Int32) (bi : Nat → UInt64) (it tu : Nat → Int32) (ne : Nat → UInt64) (pr so lo : UInt64) (wt cn : Int32) (lp lz lu : Nat → UInt64) (lk : Nat → Int32) (ld lf lb lw : Nat → UInt64) (fo : Nat → Int64) (o : Nat) (share : Int32) (ho : o < 5) (hsh : inR share 0 4) (hok : okS sh (nI o) share) : Met l yL_setShare wsL_setShare ({ frames := 2, cells := 0, slots := 0, locals := 45 } : Room) (va_Pc [.ref (a 0), .int (nI o), .int share, .ref o9] (YP D cI cZ cD cJ (XWJ o9 cJ a cI cZ cD sh sw ts bi it tu ne pr so lo wt cn lp lz lu lk ld lf lb lw fo) sz)) (va_Qi (fun (r : Int32) (u : (Unit) × (Nat → Int64)) => r = 0 ∧ u.2 0 = (sh o).toInt64 ∧ True) (fun (u : (Unit) × (Nat → Int64)) t => YB D cI cZ cD cJ (XWJ o9 cJ a cI cZ cD (upd sh o share) sw ts bi it tu ne pr so lo wt cn lp lz lu lk ld lf lb lw u.2) (va_A (XWJ o9 cJ a cI cZ cD sh sw ts bi it tu ne pr so lo wt cn lp lz lu lk ld lf lb lw fo) sz) t) (va_A (XWJ o9 cJ a cI cZ cD sh sw ts bi it tu ne pr so lo wt cn lp lz lu lk ld lf lb lw fo) sz)) 0 0 (va_A (XWJ o9 cJ a cI cZ cD sh sw ts bi it tu ne pr so lo wt cn lp lz lu lk ld lf lb lw fo) sz) := by
  refine va_MetW (cc := cL_setShare) (maxL := 5) (ret := (some .int)) (hh := [(0, 10, 13, 13), (0, 10, 17, 15)]) (by decide +kernel) rfl ?_
  intro p e s m args below meth c s₁ B hml hv
  obtain ⟨rfl, hsz, hP, hK, hD0⟩ := hv
  have hx := B.exec
  have hb := B.bytes
  have hr := B.returns
  have hts := atoms_spec (ws := wsL_setShare) B.pre
  have hown : s.vm.findClass RL = some m.cls := findClass_of_methodNamed B.named
  have hlocks := B.notSynchronized
  subst hsz
  have hD := hD0.self (sz := s.heap.size)
  generalize hAe : va_A (XWJ o9 cJ a cI cZ cD sh sw ts bi it tu ne pr so lo wt cn lp lz lu lk ld lf lb lw fo) s.heap.size = A at hD ⊢
  have hA : ∀ q : Nat, s.heap.size ≤ q → A q := fun q h => by rw [← hAe]; exact Or.inr h
  have hS : va_S A s.heap s.heap [] := va_S.rf
  have hl := lv_entry ([.ref (a 0), .int (nI o), .int share, .ref o9]) (n := 5) (Nat.le_of_ble_eq_true rfl)
  rw [lg_entry_eq]
  generalize (lg_sl ([.ref (a 0), .int (nI o), .int share, .ref o9]) ++ List.replicate (5 - (lg_sl ([.ref (a 0), .int (nI o), .int share, .ref o9])).length) Slot.unset).toArray = ls at hl ⊢
  have hl : lv_has ls 5 [(0, .ref (a 0)), (1, .int (nI o)), (2, .int share), (3, .ref o9)] := hl
  refine lv_aload_n hx hb dL_setShare_0 rfl (lv_at hl 3 rfl) ?_
  refine lv_iconst (v := nI 0) hx hb dL_setShare_1 (by decide) ?_
  refine lv_aload_n hx hb dL_setShare_2 rfl (lv_at hl 0 rfl) ?_
  refine lv_iload_n hx hb dL_setShare_3 rfl (lv_at hl 1 rfl) ?_
  refine lv_iload_n hx hb dL_setShare_4 rfl (lv_at hl 2 rfl) ?_
  have hPx : va_P D vwCl (XW a cI cZ cD sh sw ts bi it tu ne pr so lo wt cn lp lz lu lk ld lf lb lw) s.heap := hP.sub [0, 1, 2, 3, 4, 5, 6, 7, 8, 9, 10, 11, 12, 13, 14, 15, 16] rfl
  have hDx : va_D A (XW a cI cZ cD sh sw ts bi it tu ne pr so lo wt cn lp lz lu lk ld lf lb lw) := hD.sub [0, 1, 2, 3, 4, 5, 6, 7, 8, 9, 10, 11, 12, 13, 14, 15, 16] (by decide) rfl
  have hFc := va_free (wc := XW a cI cZ cD sh sw ts bi it tu ne pr so lo wt cn lp lz lu lk ld lf lb lw) hD hS hA [0, 1, 2, 3, 4, 5, 6, 7, 8, 9, 10, 11, 12, 13, 14, 15, 16] rfl
  refine va_calli (va_runV (As := [.int (nI o), .int share]) (rest := [.int (nI 0), .ref o9]) ⟨hx, hb, hml, hown, hts⟩ (mX1_setShareV l D cI cZ cD a _ sh sw ts bi it tu ne pr so lo wt cn lp lz lu lk ld lf lb lw o share ho hsh hok) (cwV 2 hts gL_setShare_X1_setShare rfl rfl rfl (by decide +kernel) ⟨Nat.le_of_ble_eq_true rfl, Nat.le_of_ble_eq_true rfl⟩) ⟨xk_blind, va_recv hK hP (ci := 1) (q0 := 0) rfl rfl, xk_pre hPx (hK.sub [0, 1, 2] rfl) hDx⟩ rfl rfl hl.1 rfl (lv_room (Nat.le_of_ble_eq_true rfl)) dL_setShare_5 ⟨Nat.le_of_ble_eq_true rfl, Nat.le_of_ble_eq_true rfl⟩) hS (fun q _ h => hFc q h) hFc (fun r u t H locs ht hvm hw hB hz1 hk1 hS => ?_)
  obtain ⟨hP1, -, hD1⟩ := hB
  rw [ht] at hP1
  obtain ⟨hP, hD⟩ := va_join (wr := [(o9, .inl (cJ, 1, .inr (.inl (fo))))]) (w1 := XW a cI cZ cD (upd sh o share) sw ts bi it tu ne pr so lo wt cn lp lz lu lk ld lf lb lw) hP hD [0, 1, 2, 3, 4, 5, 6, 7, 8, 9, 10, 11, 12, 13, 14, 15, 16] [17] rfl rfl (by decide) (by decide) hk1 hFc hP1 hD1
  have hP : va_P D vwCl (XWJ o9 cJ a cI cZ cD (upd sh o share) sw ts bi it tu ne pr so lo wt cn lp lz lu lk ld lf lb lw fo) H := hP.sub [1, 2, 3, 4, 5, 6, 7, 8, 9, 10, 11, 12, 13, 14, 15, 16, 17, 0] rfl
  have hD : va_D A (XWJ o9 cJ a cI cZ cD (upd sh o share) sw ts bi it tu ne pr so lo wt cn lp lz lu lk ld lf lb lw fo) := hD.sub [1, 2, 3, 4, 5, 6, 7, 8, 9, 10, 11, 12, 13, 14, 15, 16, 17, 0] (by decide) rfl
  subst hw
  refine lv_i2l (v := (sh o).toInt64) hx hb dL_setShare_8 rfl ?_
  refine va_last hx hb hK hP hD hS 17 3 rfl rfl (i := nI 0) (vp_in_nI (by decide) (by decide)) dL_setShare_9 (fun H locs hP hD hS => ?_)
  have hP : va_P D vwCl (XWJ o9 cJ a cI cZ cD (upd sh o share) sw ts bi it tu ne pr so lo wt cn lp lz lu lk ld lf lb lw (vp_updL fo (nI 0).toNatClampNeg ((sh o).toInt64))) H := hP
  have hD : va_D A (XWJ o9 cJ a cI cZ cD (upd sh o share) sw ts bi it tu ne pr so lo wt cn lp lz lu lk ld lf lb lw (vp_updL fo (nI 0).toNatClampNeg ((sh o).toInt64))) := hD
  refine lv_goto (tgt := 21) hx hb dL_setShare_10 (by decide) ?_
  refine lv_iconst (v := nI 0) hx hb dL_setShare_21 (by decide) ?_
  exact W.iret hx hb hr (fun t ht hW => ⟨⟨_, ((), vp_updL fo (nI 0).toNatClampNeg ((sh o).toInt64)), rfl, ⟨rfl, rfl, trivial⟩, by rw [ht]; exact hP, va_K.moved hW.alike hK, hD⟩, hS.F ht⟩) hS.2.2 dL_setShare_22
set_option maxHeartbeats 4000000 in
set_option maxRecDepth 100000 in
theorem mL_setSwitchV (l : Launch) (D : va_G) (cI cZ cD cJ : ClassId) (a : Nat → Nat) (o9 sz : Nat) (sh sw ts : Nat → Int32) (bi : Nat → UInt64) (it tu : Nat → Int32) (ne : Nat → UInt64) (pr so lo : UInt64) (wt cn : Int32) (lp lz lu : Nat → UInt64) (lk : Nat → Int32) (ld lf lb lw : Nat → UInt64) (fo : Nat → Int64) (o : Nat) (can : Int32) (ho : o < 5) (hcan : can = 0 ∨ can = 1) (hsw : ∀ j, sw j = 0 ∨ sw j = 1) : Met l yL_setSwitch wsL_setSwitch ({ frames := 2, cells := 0, slots := 0, locals := 43 } : Room) (va_Pc [.ref (a 0), .int (nI o), .int can, .ref o9] (YP D cI cZ cD cJ (XWJ o9 cJ a cI cZ cD sh sw ts bi it tu ne pr so lo wt cn lp lz lu lk ld lf lb lw fo) sz)) (va_Qi (fun (r : Int32) (u : (Unit) × (Nat → Int64)) => r = 0 ∧ u.2 0 = bL (sw o) ∧ True) (fun (u : (Unit) × (Nat → Int64)) t => YB D cI cZ cD cJ (XWJ o9 cJ a cI cZ cD sh (upd sw o can) ts bi it tu ne pr so lo wt cn lp lz lu lk ld lf lb lw u.2) (va_A (XWJ o9 cJ a cI cZ cD sh sw ts bi it tu ne pr so lo wt cn lp lz lu lk ld lf lb lw fo) sz) t) (va_A (XWJ o9 cJ a cI cZ cD sh sw ts bi it tu ne pr so lo wt cn lp lz lu lk ld lf lb lw fo) sz)) 0 0 (va_A (XWJ o9 cJ a cI cZ cD sh sw ts bi it tu ne pr so lo wt cn lp lz lu lk ld lf lb lw fo) sz) := by
  refine va_MetW (cc := cL_setSwitch) (maxL := 5) (ret := (some .int)) (hh := [(0, 17, 20, 13)]) (by decide +kernel) rfl ?_
  intro p e s m args below meth c s₁ B hml hv
  obtain ⟨rfl, hsz, hP, hK, hD0⟩ := hv
  have hx := B.exec
  have hb := B.bytes
  have hr := B.returns
  have hts := atoms_spec (ws := wsL_setSwitch) B.pre
  have hown : s.vm.findClass RL = some m.cls := findClass_of_methodNamed B.named
  have hlocks := B.notSynchronized
  subst hsz
  have hD := hD0.self (sz := s.heap.size)
  generalize hAe : va_A (XWJ o9 cJ a cI cZ cD sh sw ts bi it tu ne pr so lo wt cn lp lz lu lk ld lf lb lw fo) s.heap.size = A at hD ⊢
  have hA : ∀ q : Nat, s.heap.size ≤ q → A q := fun q h => by rw [← hAe]; exact Or.inr h
  have hS : va_S A s.heap s.heap [] := va_S.rf
  have hl := lv_entry ([.ref (a 0), .int (nI o), .int can, .ref o9]) (n := 5) (Nat.le_of_ble_eq_true rfl)
  rw [lg_entry_eq]
  generalize (lg_sl ([.ref (a 0), .int (nI o), .int can, .ref o9]) ++ List.replicate (5 - (lg_sl ([.ref (a 0), .int (nI o), .int can, .ref o9])).length) Slot.unset).toArray = ls at hl ⊢
  have hl : lv_has ls 5 [(0, .ref (a 0)), (1, .int (nI o)), (2, .int can), (3, .ref o9)] := hl
  refine lv_aload_n hx hb dL_setSwitch_0 rfl (lv_at hl 3 rfl) ?_
  refine lv_iconst (v := nI 0) hx hb dL_setSwitch_1 (by decide) ?_
  refine lv_aload_n hx hb dL_setSwitch_2 rfl (lv_at hl 0 rfl) ?_
  refine lv_iload_n hx hb dL_setSwitch_3 rfl (lv_at hl 1 rfl) ?_
  refine lv_iload_n hx hb dL_setSwitch_4 rfl (lv_at hl 2 rfl) ?_
  have hPx : va_P D vwCl (XW a cI cZ cD sh sw ts bi it tu ne pr so lo wt cn lp lz lu lk ld lf lb lw) s.heap := hP.sub [0, 1, 2, 3, 4, 5, 6, 7, 8, 9, 10, 11, 12, 13, 14, 15, 16] rfl
  have hDx : va_D A (XW a cI cZ cD sh sw ts bi it tu ne pr so lo wt cn lp lz lu lk ld lf lb lw) := hD.sub [0, 1, 2, 3, 4, 5, 6, 7, 8, 9, 10, 11, 12, 13, 14, 15, 16] (by decide) rfl
  have hFc := va_free (wc := XW a cI cZ cD sh sw ts bi it tu ne pr so lo wt cn lp lz lu lk ld lf lb lw) hD hS hA [0, 1, 2, 3, 4, 5, 6, 7, 8, 9, 10, 11, 12, 13, 14, 15, 16] rfl
  refine va_calli (va_runV (As := [.int (nI o), .int can]) (rest := [.int (nI 0), .ref o9]) ⟨hx, hb, hml, hown, hts⟩ (mX1_setSwitchV l D cI cZ cD a _ sh sw ts bi it tu ne pr so lo wt cn lp lz lu lk ld lf lb lw o can ho hcan hsw) (cwV 2 hts gL_setSwitch_X1_setSwitch rfl rfl rfl (by decide +kernel) ⟨Nat.le_of_ble_eq_true rfl, Nat.le_of_ble_eq_true rfl⟩) ⟨xk_blind, va_recv hK hP (ci := 1) (q0 := 0) rfl rfl, xk_pre hPx (hK.sub [0, 1, 2] rfl) hDx⟩ rfl rfl hl.1 rfl (lv_room (Nat.le_of_ble_eq_true rfl)) dL_setSwitch_5 ⟨Nat.le_of_ble_eq_true rfl, Nat.le_of_ble_eq_true rfl⟩) hS (fun q _ h => hFc q h) hFc (fun r u t H locs ht hvm hw hB hz1 hk1 hS => ?_)
  obtain ⟨hP1, -, hD1⟩ := hB
  rw [ht] at hP1
  obtain ⟨hP, hD⟩ := va_join (wr := [(o9, .inl (cJ, 1, .inr (.inl (fo))))]) (w1 := XW a cI cZ cD sh (upd sw o can) ts bi it tu ne pr so lo wt cn lp lz lu lk ld lf lb lw) hP hD [0, 1, 2, 3, 4, 5, 6, 7, 8, 9, 10, 11, 12, 13, 14, 15, 16] [17] rfl rfl (by decide) (by decide) hk1 hFc hP1 hD1
  have hP : va_P D vwCl (XWJ o9 cJ a cI cZ cD sh (upd sw o can) ts bi it tu ne pr so lo wt cn lp lz lu lk ld lf lb lw fo) H := hP.sub [1, 2, 3, 4, 5, 6, 7, 8, 9, 10, 11, 12, 13, 14, 15, 16, 17, 0] rfl
  have hD : va_D A (XWJ o9 cJ a cI cZ cD sh (upd sw o can) ts bi it tu ne pr so lo wt cn lp lz lu lk ld lf lb lw fo) := hD.sub [1, 2, 3, 4, 5, 6, 7, 8, 9, 10, 11, 12, 13, 14, 15, 16, 17, 0] (by decide) rfl
  subst hw
  refine lv_if_eq (tgt := 15) hx hb dL_setSwitch_8 (by decide) (fun c => ?_) (fun c => ?_)
  · skip
    refine lv_lconst (v := 0) hx hb dL_setSwitch_15 (by decide) ?_
    refine va_last hx hb hK hP hD hS 17 3 rfl rfl (i := nI 0) (vp_in_nI (by decide) (by decide)) dL_setSwitch_16 (fun H locs hP hD hS => ?_)
    have hP : va_P D vwCl (XWJ o9 cJ a cI cZ cD sh (upd sw o can) ts bi it tu ne pr so lo wt cn lp lz lu lk ld lf lb lw (vp_updL fo (nI 0).toNatClampNeg 0)) H := hP
    have hD : va_D A (XWJ o9 cJ a cI cZ cD sh (upd sw o can) ts bi it tu ne pr so lo wt cn lp lz lu lk ld lf lb lw (vp_updL fo (nI 0).toNatClampNeg 0)) := hD
    have eb : bL (sw o) = 0 := if_pos c
    refine lv_goto (tgt := 24) hx hb dL_setSwitch_17 (by decide) ?_
    refine lv_iconst (v := nI 0) hx hb dL_setSwitch_24 (by decide) ?_
    exact W.iret hx hb hr (fun t ht hW => ⟨⟨_, ((), vp_updL fo (nI 0).toNatClampNeg 0), rfl, ⟨rfl, by rw [eb] <;> rfl, trivial⟩, by rw [ht]; exact hP, va_K.moved hW.alike hK, hD⟩, hS.F ht⟩) hS.2.2 dL_setSwitch_25
  · skip
    refine lv_lconst (v := 1) hx hb dL_setSwitch_11 (by decide) ?_
    refine lv_goto (tgt := 16) hx hb dL_setSwitch_12 (by decide) ?_
    refine va_last hx hb hK hP hD hS 17 3 rfl rfl (i := nI 0) (vp_in_nI (by decide) (by decide)) dL_setSwitch_16 (fun H locs hP hD hS => ?_)
    have hP : va_P D vwCl (XWJ o9 cJ a cI cZ cD sh (upd sw o can) ts bi it tu ne pr so lo wt cn lp lz lu lk ld lf lb lw (vp_updL fo (nI 0).toNatClampNeg 1)) H := hP
    have hD : va_D A (XWJ o9 cJ a cI cZ cD sh (upd sw o can) ts bi it tu ne pr so lo wt cn lp lz lu lk ld lf lb lw (vp_updL fo (nI 0).toNatClampNeg 1)) := hD
    have eb : bL (sw o) = 1 := if_neg c
    refine lv_goto (tgt := 24) hx hb dL_setSwitch_17 (by decide) ?_
    refine lv_iconst (v := nI 0) hx hb dL_setSwitch_24 (by decide) ?_
    exact W.iret hx hb hr (fun t ht hW => ⟨⟨_, ((), vp_updL fo (nI 0).toNatClampNeg 1), rfl, ⟨rfl, by rw [eb] <;> rfl, trivial⟩, by rw [ht]; exact hP, va_K.moved hW.alike hK, hD⟩, hS.F ht⟩) hS.2.2 dL_setSwitch_25
set_option maxHeartbeats 4000000 in
set_option maxRecDepth 100000 in
theorem mL_setPriceV (l : Launch) (D : va_G) (cI cZ cD cJ : ClassId) (a : Nat → Nat) (o9 sz : Nat) (sh sw ts : Nat → Int32) (bi : Nat → UInt64) (it tu : Nat → Int32) (ne : Nat → UInt64) (pr so lo : UInt64) (wt cn : Int32) (lp lz lu : Nat → UInt64) (lk : Nat → Int32) (ld lf lb lw : Nat → UInt64) (fo : Nat → UInt64) (k : Nat) (hk : 1 ≤ k ∧ k < 5) : Met l yL_setPrice wsL_setPrice ({ frames := 2, cells := 0, slots := 0, locals := 43 } : Room) (va_Pc [.ref (a 0), .int (nI k), .ref o9] (YP D cI cZ cD cJ (XWD o9 a cI cZ cD sh sw ts bi it tu ne pr so lo wt cn lp lz lu lk ld lf lb lw fo) sz)) (va_Qi (fun (r : Int32) (u : (Unit) × (Nat → UInt64)) => r = 0 ∧ u.2 0 = FP.ddiv (FP.i2d (nI k)) 4616189618054758400 ∧ True) (fun (u : (Unit) × (Nat → UInt64)) t => YB D cI cZ cD cJ (XWD o9 a cI cZ cD sh sw ts bi it tu ne (FP.ddiv (FP.i2d (nI k)) 4616189618054758400) so lo wt cn lp lz lu lk ld lf lb lw u.2) (va_A (XWD o9 a cI cZ cD sh sw ts bi it tu ne pr so lo wt cn lp lz lu lk ld lf lb lw fo) sz) t) (va_A (XWD o9 a cI cZ cD sh sw ts bi it tu ne pr so lo wt cn lp lz lu lk ld lf lb lw fo) sz)) 0 0 (va_A (XWD o9 a cI cZ cD sh sw ts bi it tu ne pr so lo wt cn lp lz lu lk ld lf lb lw fo) sz) := by
  refine va_MetW (cc := cL_setPrice) (maxL := 4) (ret := (some .int)) (hh := [(0, 8, 11, 13)]) (by decide +kernel) rfl ?_
  intro p e s m args below meth c s₁ B hml hv
  obtain ⟨rfl, hsz, hP, hK, hD0⟩ := hv
  have hx := B.exec
  have hb := B.bytes
  have hr := B.returns
  have hts := atoms_spec (ws := wsL_setPrice) B.pre
  have hown : s.vm.findClass RL = some m.cls := findClass_of_methodNamed B.named
  have hlocks := B.notSynchronized
  subst hsz
  have hD := hD0.self (sz := s.heap.size)
  generalize hAe : va_A (XWD o9 a cI cZ cD sh sw ts bi it tu ne pr so lo wt cn lp lz lu lk ld lf lb lw fo) s.heap.size = A at hD ⊢
  have hA : ∀ q : Nat, s.heap.size ≤ q → A q := fun q h => by rw [← hAe]; exact Or.inr h
  have hS : va_S A s.heap s.heap [] := va_S.rf
  have hl := lv_entry ([.ref (a 0), .int (nI k), .ref o9]) (n := 4) (Nat.le_of_ble_eq_true rfl)
  rw [lg_entry_eq]
  generalize (lg_sl ([.ref (a 0), .int (nI k), .ref o9]) ++ List.replicate (4 - (lg_sl ([.ref (a 0), .int (nI k), .ref o9])).length) Slot.unset).toArray = ls at hl ⊢
  have hl : lv_has ls 4 [(0, .ref (a 0)), (1, .int (nI k)), (2, .ref o9)] := hl
  refine lv_aload_n hx hb dL_setPrice_0 rfl (lv_at hl 2 rfl) ?_
  refine lv_iconst (v := nI 0) hx hb dL_setPrice_1 (by decide) ?_
  refine lv_aload_n hx hb dL_setPrice_2 rfl (lv_at hl 0 rfl) ?_
  refine lv_iload_n hx hb dL_setPrice_3 rfl (lv_at hl 1 rfl) ?_
  have hPx : va_P D vwCl (XW a cI cZ cD sh sw ts bi it tu ne pr so lo wt cn lp lz lu lk ld lf lb lw) s.heap := hP.sub [0, 1, 2, 3, 4, 5, 6, 7, 8, 9, 10, 11, 12, 13, 14, 15, 16] rfl
  have hDx : va_D A (XW a cI cZ cD sh sw ts bi it tu ne pr so lo wt cn lp lz lu lk ld lf lb lw) := hD.sub [0, 1, 2, 3, 4, 5, 6, 7, 8, 9, 10, 11, 12, 13, 14, 15, 16] (by decide) rfl
  have hFc := va_free (wc := XW a cI cZ cD sh sw ts bi it tu ne pr so lo wt cn lp lz lu lk ld lf lb lw) hD hS hA [0, 1, 2, 3, 4, 5, 6, 7, 8, 9, 10, 11, 12, 13, 14, 15, 16] rfl
  refine va_calld (va_runV (As := [.int (nI k)]) (rest := [.int (nI 0), .ref o9]) ⟨hx, hb, hml, hown, hts⟩ (mX1_setPriceV l D cI cZ cD a _ sh sw ts bi it tu ne pr so lo wt cn lp lz lu lk ld lf lb lw k hk) (cwV 1 hts gL_setPrice_X1_setPrice rfl rfl rfl (by decide +kernel) ⟨Nat.le_of_ble_eq_true rfl, Nat.le_of_ble_eq_true rfl⟩) ⟨xk_blind, va_recv hK hP (ci := 1) (q0 := 0) rfl rfl, xk_pre hPx (hK.sub [0, 1, 2] rfl) hDx⟩ rfl rfl hl.1 rfl (lv_room (Nat.le_of_ble_eq_true rfl)) dL_setPrice_4 ⟨Nat.le_of_ble_eq_true rfl, Nat.le_of_ble_eq_true rfl⟩) hS (fun q _ h => hFc q h) hFc (fun r u t H locs ht hvm hw hB hz1 hk1 hS => ?_)
  obtain ⟨hP1, -, hD1⟩ := hB
  rw [ht] at hP1
  obtain ⟨hP, hD⟩ := va_join (wr := [(o9, .inl (cD, 1, .inr (.inr (.inr (.inl (fo))))))]) (w1 := XW a cI cZ cD sh sw ts bi it tu ne (FP.ddiv (FP.i2d (nI k)) 4616189618054758400) so lo wt cn lp lz lu lk ld lf lb lw) hP hD [0, 1, 2, 3, 4, 5, 6, 7, 8, 9, 10, 11, 12, 13, 14, 15, 16] [17] rfl rfl (by decide) (by decide) hk1 hFc hP1 hD1
  have hP : va_P D vwCl (XWD o9 a cI cZ cD sh sw ts bi it tu ne (FP.ddiv (FP.i2d (nI k)) 4616189618054758400) so lo wt cn lp lz lu lk ld lf lb lw fo) H := hP.sub [1, 2, 3, 4, 5, 6, 7, 8, 9, 10, 11, 12, 13, 14, 15, 16, 17, 0] rfl
  have hD : va_D A (XWD o9 a cI cZ cD sh sw ts bi it tu ne (FP.ddiv (FP.i2d (nI k)) 4616189618054758400) so lo wt cn lp lz lu lk ld lf lb lw fo) := hD.sub [1, 2, 3, 4, 5, 6, 7, 8, 9, 10, 11, 12, 13, 14, 15, 16, 17, 0] (by decide) rfl
  subst hw
  refine xk_dast hx hb hK hP hD hS 17 2 rfl rfl (o := 0) (by decide) (by decide) dL_setPrice_7 (fun H locs hP hD hS => ?_)
  have hP : va_P D vwCl (XWD o9 a cI cZ cD sh sw ts bi it tu ne (FP.ddiv (FP.i2d (nI k)) 4616189618054758400) so lo wt cn lp lz lu lk ld lf lb lw (vf_upd fo 0 (FP.ddiv (FP.i2d (nI k)) 4616189618054758400))) H := hP
  have hD : va_D A (XWD o9 a cI cZ cD sh sw ts bi it tu ne (FP.ddiv (FP.i2d (nI k)) 4616189618054758400) so lo wt cn lp lz lu lk ld lf lb lw (vf_upd fo 0 (FP.ddiv (FP.i2d (nI k)) 4616189618054758400))) := hD
  refine lv_goto (tgt := 14) hx hb dL_setPrice_8 (by decide) ?_
  refine lv_iconst (v := nI 0) hx hb dL_setPrice_14 (by decide) ?_
  exact W.iret hx hb hr (fun t ht hW => ⟨⟨_, ((), vf_upd fo 0 (FP.ddiv (FP.i2d (nI k)) 4616189618054758400)), rfl, ⟨rfl, rfl, trivial⟩, by rw [ht]; exact hP, va_K.moved hW.alike hK, hD⟩, hS.F ht⟩) hS.2.2 dL_setPrice_15
set_option maxHeartbeats 4000000 in
set_option maxRecDepth 100000 in
theorem mL_tellV (l : Launch) (D : va_G) (cI cZ cD cJ : ClassId) (a : Nat → Nat) (o9 sz : Nat) (sh sw ts : Nat → Int32) (bi : Nat → UInt64) (it tu : Nat → Int32) (ne : Nat → UInt64) (pr so lo : UInt64) (wt cn : Int32) (lp lz lu : Nat → UInt64) (lk : Nat → Int32) (ld lf lb lw : Nat → UInt64) (fo : Nat → Int64) (o : Nat) (use : Int32) (ho : o < 5) (hus : inR use 0 50) (hit : ∀ j, it j = 0 ∨ it j = 1) : Met l yL_tell wsL_tell ({ frames := 2, cells := 0, slots := 0, locals := 45 } : Room) (va_Pc [.ref (a 0), .int (nI o), .int use, .ref o9] (YP D cI cZ cD cJ (XWJ o9 cJ a cI cZ cD sh sw ts bi it tu ne pr so lo wt cn lp lz lu lk ld lf lb lw fo) sz)) (va_Qi (fun (r : Int32) (u : (Unit) × (Nat → Int64)) => r = 0 ∧ u.2 0 = bL (it o) ∧ True) (fun (u : (Unit) × (Nat → Int64)) t => YB D cI cZ cD cJ (XWJ o9 cJ a cI cZ cD sh sw ts bi (upd it o 1) (upd tu o use) ne pr so lo wt cn lp lz lu lk ld lf lb lw u.2) (va_A (XWJ o9 cJ a cI cZ cD sh sw ts bi it tu ne pr so lo wt cn lp lz lu lk ld lf lb lw fo) sz) t) (va_A (XWJ o9 cJ a cI cZ cD sh sw ts bi it tu ne pr so lo wt cn lp lz lu lk ld lf lb lw fo) sz)) 0 0 (va_A (XWJ o9 cJ a cI cZ cD sh sw ts bi it tu ne pr so lo wt cn lp lz lu lk ld lf lb lw fo) sz) := by
  refine va_MetW (cc := cL_tell) (maxL := 5) (ret := (some .int)) (hh := [(0, 17, 20, 13)]) (by decide +kernel) rfl ?_
  intro p e s m args below meth c s₁ B hml hv
  obtain ⟨rfl, hsz, hP, hK, hD0⟩ := hv
  have hx := B.exec
  have hb := B.bytes
  have hr := B.returns
  have hts := atoms_spec (ws := wsL_tell) B.pre
  have hown : s.vm.findClass RL = some m.cls := findClass_of_methodNamed B.named
  have hlocks := B.notSynchronized
  subst hsz
  have hD := hD0.self (sz := s.heap.size)
  generalize hAe : va_A (XWJ o9 cJ a cI cZ cD sh sw ts bi it tu ne pr so lo wt cn lp lz lu lk ld lf lb lw fo) s.heap.size = A at hD ⊢
  have hA : ∀ q : Nat, s.heap.size ≤ q → A q := fun q h => by rw [← hAe]; exact Or.inr h
  have hS : va_S A s.heap s.heap [] := va_S.rf
  have hl := lv_entry ([.ref (a 0), .int (nI o), .int use, .ref o9]) (n := 5) (Nat.le_of_ble_eq_true rfl)
  rw [lg_entry_eq]
  generalize (lg_sl ([.ref (a 0), .int (nI o), .int use, .ref o9]) ++ List.replicate (5 - (lg_sl ([.ref (a 0), .int (nI o), .int use, .ref o9])).length) Slot.unset).toArray = ls at hl ⊢
  have hl : lv_has ls 5 [(0, .ref (a 0)), (1, .int (nI o)), (2, .int use), (3, .ref o9)] := hl
  refine lv_aload_n hx hb dL_tell_0 rfl (lv_at hl 3 rfl) ?_
  refine lv_iconst (v := nI 0) hx hb dL_tell_1 (by decide) ?_
  refine lv_aload_n hx hb dL_tell_2 rfl (lv_at hl 0 rfl) ?_
  refine lv_iload_n hx hb dL_tell_3 rfl (lv_at hl 1 rfl) ?_
  refine lv_iload_n hx hb dL_tell_4 rfl (lv_at hl 2 rfl) ?_
  have hPx : va_P D vwCl (XW a cI cZ cD sh sw ts bi it tu ne pr so lo wt cn lp lz lu lk ld lf lb lw) s.heap := hP.sub [0, 1, 2, 3, 4, 5, 6, 7, 8, 9, 10, 11, 12, 13, 14, 15, 16] rfl
  have hDx : va_D A (XW a cI cZ cD sh sw ts bi it tu ne pr so lo wt cn lp lz lu lk ld lf lb lw) := hD.sub [0, 1, 2, 3, 4, 5, 6, 7, 8, 9, 10, 11, 12, 13, 14, 15, 16] (by decide) rfl
  have hFc := va_free (wc := XW a cI cZ cD sh sw ts bi it tu ne pr so lo wt cn lp lz lu lk ld lf lb lw) hD hS hA [0, 1, 2, 3, 4, 5, 6, 7, 8, 9, 10, 11, 12, 13, 14, 15, 16] rfl
  refine va_calli (va_runV (As := [.int (nI o), .int use]) (rest := [.int (nI 0), .ref o9]) ⟨hx, hb, hml, hown, hts⟩ (mX1_tellV l D cI cZ cD a _ sh sw ts bi it tu ne pr so lo wt cn lp lz lu lk ld lf lb lw o use ho hus hit) (cwV 2 hts gL_tell_X1_tell rfl rfl rfl (by decide +kernel) ⟨Nat.le_of_ble_eq_true rfl, Nat.le_of_ble_eq_true rfl⟩) ⟨xk_blind, va_recv hK hP (ci := 1) (q0 := 0) rfl rfl, xk_pre hPx (hK.sub [0, 1, 2] rfl) hDx⟩ rfl rfl hl.1 rfl (lv_room (Nat.le_of_ble_eq_true rfl)) dL_tell_5 ⟨Nat.le_of_ble_eq_true rfl, Nat.le_of_ble_eq_true rfl⟩) hS (fun q _ h => hFc q h) hFc (fun r u t H locs ht hvm hw hB hz1 hk1 hS => ?_)
  obtain ⟨hP1, -, hD1⟩ := hB
  rw [ht] at hP1
  obtain ⟨hP, hD⟩ := va_join (wr := [(o9, .inl (cJ, 1, .inr (.inl (fo))))]) (w1 := XW a cI cZ cD sh sw ts bi (upd it o 1) (upd tu o use) ne pr so lo wt cn lp lz lu lk ld lf lb lw) hP hD [0, 1, 2, 3, 4, 5, 6, 7, 8, 9, 10, 11, 12, 13, 14, 15, 16] [17] rfl rfl (by decide) (by decide) hk1 hFc hP1 hD1
  have hP : va_P D vwCl (XWJ o9 cJ a cI cZ cD sh sw ts bi (upd it o 1) (upd tu o use) ne pr so lo wt cn lp lz lu lk ld lf lb lw fo) H := hP.sub [1, 2, 3, 4, 5, 6, 7, 8, 9, 10, 11, 12, 13, 14, 15, 16, 17, 0] rfl
  have hD : va_D A (XWJ o9 cJ a cI cZ cD sh sw ts bi (upd it o 1) (upd tu o use) ne pr so lo wt cn lp lz lu lk ld lf lb lw fo) := hD.sub [1, 2, 3, 4, 5, 6, 7, 8, 9, 10, 11, 12, 13, 14, 15, 16, 17, 0] (by decide) rfl
  subst hw
  refine lv_if_eq (tgt := 15) hx hb dL_tell_8 (by decide) (fun c => ?_) (fun c => ?_)
  · skip
    refine lv_lconst (v := 0) hx hb dL_tell_15 (by decide) ?_
    refine va_last hx hb hK hP hD hS 17 3 rfl rfl (i := nI 0) (vp_in_nI (by decide) (by decide)) dL_tell_16 (fun H locs hP hD hS => ?_)
    have hP : va_P D vwCl (XWJ o9 cJ a cI cZ cD sh sw ts bi (upd it o 1) (upd tu o use) ne pr so lo wt cn lp lz lu lk ld lf lb lw (vp_updL fo (nI 0).toNatClampNeg 0)) H := hP
    have hD : va_D A (XWJ o9 cJ a cI cZ cD sh sw ts bi (upd it o 1) (upd tu o use) ne pr so lo wt cn lp lz lu lk ld lf lb lw (vp_updL fo (nI 0).toNatClampNeg 0)) := hD
    have eb : bL (it o) = 0 := if_pos c
    refine lv_goto (tgt := 24) hx hb dL_tell_17 (by decide) ?_
    refine lv_iconst (v := nI 0) hx hb dL_tell_24 (by decide) ?_
    exact W.iret hx hb hr (fun t ht hW => ⟨⟨_, ((), vp_updL fo (nI 0).toNatClampNeg 0), rfl, ⟨rfl, by rw [eb] <;> rfl, trivial⟩, by rw [ht]; exact hP, va_K.moved hW.alike hK, hD⟩, hS.F ht⟩) hS.2.2 dL_tell_25
  · skip
    refine lv_lconst (v := 1) hx hb dL_tell_11 (by decide) ?_
    refine lv_goto (tgt := 16) hx hb dL_tell_12 (by decide) ?_
    refine va_last hx hb hK hP hD hS 17 3 rfl rfl (i := nI 0) (vp_in_nI (by decide) (by decide)) dL_tell_16 (fun H locs hP hD hS => ?_)
    have hP : va_P D vwCl (XWJ o9 cJ a cI cZ cD sh sw ts bi (upd it o 1) (upd tu o use) ne pr so lo wt cn lp lz lu lk ld lf lb lw (vp_updL fo (nI 0).toNatClampNeg 1)) H := hP
    have hD : va_D A (XWJ o9 cJ a cI cZ cD sh sw ts bi (upd it o 1) (upd tu o use) ne pr so lo wt cn lp lz lu lk ld lf lb lw (vp_updL fo (nI 0).toNatClampNeg 1)) := hD
    have eb : bL (it o) = 1 := if_neg c
    refine lv_goto (tgt := 24) hx hb dL_tell_17 (by decide) ?_
    refine lv_iconst (v := nI 0) hx hb dL_tell_24 (by decide) ?_
    exact W.iret hx hb hr (fun t ht hW => ⟨⟨_, ((), vp_updL fo (nI 0).toNatClampNeg 1), rfl, ⟨rfl, by rw [eb] <;> rfl, trivial⟩, by rw [ht]; exact hP, va_K.moved hW.alike hK, hD⟩, hS.F ht⟩) hS.2.2 dL_tell_25
set_option maxHeartbeats 4000000 in
set_option maxRecDepth 100000 in
theorem mL_closeV (l : Launch) (D : va_G) (cI cZ cD cJ : ClassId) (a : Nat → Nat) (o9 sz : Nat) (sh sw ts : Nat → Int32) (bi : Nat → UInt64) (it tu : Nat → Int32) (ne : Nat → UInt64) (pr so lo : UInt64) (lp lz lu : Nat → UInt64) (lk : Nat → Int32) (ld lf lb lw : Nat → UInt64) (fo : Nat → Int64) (n tr : Nat) (sun : Int32) (hn : n < 60) (htr : tr < 5) (hsun : inR sun 0 100) (hit : ∀ j, it j = 0 ∨ it j = 1) : MetD lw_cs l yL_close wsL_close ({ frames := 4, cells := 0, slots := 0, locals := 95 } : Room) (va_Pc [.ref (a 0), .int sun, .ref o9] (YP D cI cZ cD cJ (XWJ o9 cJ a cI cZ cD sh sw ts bi it tu ne pr so lo (nI tr) (nI n) lp lz lu lk ld lf lb lw fo) sz)) (va_Qi (fun (r : Int32) (u : (((Nat → Int32) × (Nat → UInt64) × (Nat → UInt64) × UInt64) × ((Nat → UInt64) × (Nat → UInt64) × UInt64 × (Nat → UInt64)) × ((Nat → UInt64) × Nat × (Nat → UInt64) × (Nat → UInt64))) × (Nat → Int64)) => r = 0 ∧ u.2 0 = bL (bI (over ((cT sw ts it tu lk (dts lu) n).2))) ∧ (u.1.1.1 = (cT sw ts it tu lk (dts lu) n).1 ∧ dts u.1.1.2.1 = po (5 * n) 5 (dts lu) (use0 it tu lk (dts lu) n) ∧ dts u.1.2.1.1 = po (5 * n) 5 (dts ld) ((cT sw ts it tu lk (dts lu) n).2) ∧ dts u.1.2.1.2.1 = kF sun sh ((cT sw ts it tu lk (dts lu) n).2) n (dts lf) ∧ dts u.1.2.1.2.2.2 = kZ sun sh ((cT sw ts it tu lk (dts lu) n).2) (dt so) (dts lz) n ∧ dt u.1.2.1.2.2.1 = (kB sun sh ((cT sw ts it tu lk (dts lu) n).2) (dt so) (dts lb) tr n).2.1 ∧ dts u.1.2.2.1 = (kB sun sh ((cT sw ts it tu lk (dts lu) n).2) (dt so) (dts lb) tr n).2.2.1 ∧ u.1.2.2.2.1 = (kB sun sh ((cT sw ts it tu lk (dts lu) n).2) (dt so) (dts lb) tr n).2.2.2 ∧ dts u.1.2.2.2.2.1 = po (5 * n) 5 (dts lw) (kB sun sh ((cT sw ts it tu lk (dts lu) n).2) (dt so) (dts lb) tr n).1 ∧ dts u.1.2.2.2.2.2 = kI sun sh ((cT sw ts it tu lk (dts lu) n).2) (dt so) (dts lz) (dts bi) (dt pr) (dts lb) tr n)) (fun (u : (((Nat → Int32) × (Nat → UInt64) × (Nat → UInt64) × UInt64) × ((Nat → UInt64) × (Nat → UInt64) × UInt64 × (Nat → UInt64)) × ((Nat → UInt64) × Nat × (Nat → UInt64) × (Nat → UInt64))) × (Nat → Int64)) t => YB D cI cZ cD cJ (XWJ o9 cJ a cI cZ cD sh sw u.1.1.1 u.1.2.2.2.2.2 (po 0 5 it (fun _ => 0)) tu u.1.1.2.2.1 pr u.1.2.1.2.2.1 u.1.1.2.2.2 (nI u.1.2.2.2.1) (nI (n + 1)) (vf_upd lp n pr) u.1.2.1.2.2.2 u.1.1.2.1 (po (5 * n) 5 lk it) u.1.2.1.1 u.1.2.1.2.1 u.1.2.2.1 u.1.2.2.2.2.1 u.2) (va_A (XWJ o9 cJ a cI cZ cD sh sw ts bi it tu ne pr so lo (nI tr) (nI n) lp lz lu lk ld lf lb lw fo) sz) t) (va_A (XWJ o9 cJ a cI cZ cD sh sw ts bi it tu ne pr so lo (nI tr) (nI n) lp lz lu lk ld lf lb lw fo) sz)) 0 0 (va_A (XWJ o9 cJ a cI cZ cD sh sw ts bi it tu ne pr so lo (nI tr) (nI n) lp lz lu lk ld lf lb lw fo) sz) := by
  refine xd_MetW (cc := cL_close) (maxL := 4) (ret := (some .int)) (hh := [(0, 16, 19, 13), (0, 16, 22, 15)]) (by decide +kernel) rfl ?_
  intro p e s m args below meth c s₁ B hml hv hd0
  obtain ⟨rfl, hsz, hP, hK, hD0⟩ := hv
  have hx := B.exec
  have hb := B.bytes
  have hr := B.returns
  have hts := atoms_spec (ws := wsL_close) B.pre
  have hown : s.vm.findClass RL = some m.cls := findClass_of_methodNamed B.named
  have hlocks := B.notSynchronized
  subst hsz
  have hD := hD0.self (sz := s.heap.size)
  generalize hAe : va_A (XWJ o9 cJ a cI cZ cD sh sw ts bi it tu ne pr so lo (nI tr) (nI n) lp lz lu lk ld lf lb lw fo) s.heap.size = A at hD ⊢
  have hA : ∀ q : Nat, s.heap.size ≤ q → A q := fun q h => by rw [← hAe]; exact Or.inr h
  have hS : va_S A s.heap s.heap [] := va_S.rf
  have hl := lv_entry ([.ref (a 0), .int sun, .ref o9]) (n := 4) (Nat.le_of_ble_eq_true rfl)
  rw [lg_entry_eq]
  generalize (lg_sl ([.ref (a 0), .int sun, .ref o9]) ++ List.replicate (4 - (lg_sl ([.ref (a 0), .int sun, .ref o9])).length) Slot.unset).toArray = ls at hl ⊢
  have hl : lv_has ls 4 [(0, .ref (a 0)), (1, .int sun), (2, .ref o9)] := hl
  refine lv_aload_n hx hb dL_close_0 rfl (lv_at hl 2 rfl) ?_
  refine lv_iconst (v := nI 0) hx hb dL_close_1 (by decide) ?_
  refine lv_aload_n hx hb dL_close_2 rfl (lv_at hl 0 rfl) ?_
  refine lv_iload_n hx hb dL_close_3 rfl (lv_at hl 1 rfl) ?_
  have hPx : va_P D vwCl (XW a cI cZ cD sh sw ts bi it tu ne pr so lo (nI tr) (nI n) lp lz lu lk ld lf lb lw) s.heap := hP.sub [0, 1, 2, 3, 4, 5, 6, 7, 8, 9, 10, 11, 12, 13, 14, 15, 16] rfl
  have hDx : va_D A (XW a cI cZ cD sh sw ts bi it tu ne pr so lo (nI tr) (nI n) lp lz lu lk ld lf lb lw) := hD.sub [0, 1, 2, 3, 4, 5, 6, 7, 8, 9, 10, 11, 12, 13, 14, 15, 16] (by decide) rfl
  have hFc := va_free (wc := XW a cI cZ cD sh sw ts bi it tu ne pr so lo (nI tr) (nI n) lp lz lu lk ld lf lb lw) hD hS hA [0, 1, 2, 3, 4, 5, 6, 7, 8, 9, 10, 11, 12, 13, 14, 15, 16] rfl
  refine va_calliD hd0 (va_runV_D (As := [.int sun]) (rest := [.int (nI 0), .ref o9]) ⟨hx, hb, hml, (xk_od hown), (dr_words hts _)⟩ (mX1_closeV l D cI cZ cD a _ sh sw ts bi it tu ne pr so lo lp lz lu lk ld lf lb lw n tr sun hn htr hsun hit) (cwV 1 (dr_words hts _) gL_close_X1_close rfl rfl rfl (by decide +kernel) ⟨Nat.le_of_ble_eq_true rfl, Nat.le_of_ble_eq_true rfl⟩) ⟨xk_blind, va_recv (xk_Kd hK) hP (ci := 1) (q0 := 0) rfl rfl, xk_pre hPx ((yk_Kd hK).sub [0, 1, 2] rfl) hDx⟩ rfl rfl hl.1 rfl (lv_room (Nat.le_of_ble_eq_true rfl)) dL_close_4 ⟨Nat.le_of_ble_eq_true rfl, Nat.le_of_ble_eq_true rfl⟩) hS (fun q _ h => hFc q h) hFc (fun r u t H locs ht hvm hw hB hz1 hk1 hS _ hd1 => ?_)
  obtain ⟨z, rfl⟩ : ∃ z, z = u := ⟨_, rfl⟩
  obtain ⟨hP1, -, hD1⟩ := hB
  rw [ht] at hP1
  obtain ⟨hP, hD⟩ := va_join (wr := [(o9, .inl (cJ, 1, .inr (.inl (fo))))]) (w1 := XW a cI cZ cD sh sw z.1.1 z.2.2.2.2.2 (po 0 5 it (fun _ => 0)) tu z.1.2.2.1 pr z.2.1.2.2.1 z.1.2.2.2 (nI z.2.2.2.1) (nI (n + 1)) (vf_upd lp n pr) z.2.1.2.2.2 z.1.2.1 (po (5 * n) 5 lk it) z.2.1.1 z.2.1.2.1 z.2.2.1 z.2.2.2.2.1) hP hD [0, 1, 2, 3, 4, 5, 6, 7, 8, 9, 10, 11, 12, 13, 14, 15, 16] [17] rfl rfl (by decide) (by decide) hk1 hFc hP1 hD1
  have hP : va_P D vwCl (XWJ o9 cJ a cI cZ cD sh sw z.1.1 z.2.2.2.2.2 (po 0 5 it (fun _ => 0)) tu z.1.2.2.1 pr z.2.1.2.2.1 z.1.2.2.2 (nI z.2.2.2.1) (nI (n + 1)) (vf_upd lp n pr) z.2.1.2.2.2 z.1.2.1 (po (5 * n) 5 lk it) z.2.1.1 z.2.1.2.1 z.2.2.1 z.2.2.2.2.1 fo) H := hP.sub [1, 2, 3, 4, 5, 6, 7, 8, 9, 10, 11, 12, 13, 14, 15, 16, 17, 0] rfl
  have hD : va_D A (XWJ o9 cJ a cI cZ cD sh sw z.1.1 z.2.2.2.2.2 (po 0 5 it (fun _ => 0)) tu z.1.2.2.1 pr z.2.1.2.2.1 z.1.2.2.2 (nI z.2.2.2.1) (nI (n + 1)) (vf_upd lp n pr) z.2.1.2.2.2 z.1.2.1 (po (5 * n) 5 lk it) z.2.1.1 z.2.1.2.1 z.2.2.1 z.2.2.2.2.1 fo) := hD.sub [1, 2, 3, 4, 5, 6, 7, 8, 9, 10, 11, 12, 13, 14, 15, 16, 17, 0] (by decide) rfl
  obtain ⟨rfl, hw2⟩ := hw
  refine lv_if_eq (tgt := 14) hx hb dL_close_7 (by decide) (fun c => ?_) (fun c => ?_)
  · skip
    refine lv_lconst (v := 0) hx hb dL_close_14 (by decide) ?_
    refine va_last hx hb (xk_Kd hK) hP hD hS 17 3 rfl rfl (i := nI 0) (vp_in_nI (by decide) (by decide)) dL_close_15 (fun H locs hP hD hS => ?_)
    have hP : va_P D vwCl (XWJ o9 cJ a cI cZ cD sh sw z.1.1 z.2.2.2.2.2 (po 0 5 it (fun _ => 0)) tu z.1.2.2.1 pr z.2.1.2.2.1 z.1.2.2.2 (nI z.2.2.2.1) (nI (n + 1)) (vf_upd lp n pr) z.2.1.2.2.2 z.1.2.1 (po (5 * n) 5 lk it) z.2.1.1 z.2.1.2.1 z.2.2.1 z.2.2.2.2.1 (vp_updL fo (nI 0).toNatClampNeg 0)) H := hP
    have hD : va_D A (XWJ o9 cJ a cI cZ cD sh sw z.1.1 z.2.2.2.2.2 (po 0 5 it (fun _ => 0)) tu z.1.2.2.1 pr z.2.1.2.2.1 z.1.2.2.2 (nI z.2.2.2.1) (nI (n + 1)) (vf_upd lp n pr) z.2.1.2.2.2 z.1.2.1 (po (5 * n) 5 lk it) z.2.1.1 z.2.1.2.1 z.2.2.1 z.2.2.2.2.1 (vp_updL fo (nI 0).toNatClampNeg 0)) := hD
    have eb : bL (bI (over ((cT sw ts it tu lk (dts lu) n).2))) = 0 := if_pos c
    refine lv_goto (tgt := 25) hx hb dL_close_16 (by decide) ?_
    refine lv_iconst (v := nI 0) hx hb dL_close_25 (by decide) ?_
    refine W.endD hd1 ?_
    exact W.iret hx hb hr (fun t ht hW => ⟨⟨_, (z, vp_updL fo (nI 0).toNatClampNeg 0), rfl, ⟨rfl, by rw [eb] <;> rfl, hw2⟩, by rw [ht]; exact hP, va_K.moved hW.alike (xk_Kd hK), hD⟩, hS.F ht⟩) hS.2.2 dL_close_26
  · skip
    refine lv_lconst (v := 1) hx hb dL_close_10 (by decide) ?_
    refine lv_goto (tgt := 15) hx hb dL_close_11 (by decide) ?_
    refine va_last hx hb (xk_Kd hK) hP hD hS 17 3 rfl rfl (i := nI 0) (vp_in_nI (by decide) (by decide)) dL_close_15 (fun H locs hP hD hS => ?_)
    have hP : va_P D vwCl (XWJ o9 cJ a cI cZ cD sh sw z.1.1 z.2.2.2.2.2 (po 0 5 it (fun _ => 0)) tu z.1.2.2.1 pr z.2.1.2.2.1 z.1.2.2.2 (nI z.2.2.2.1) (nI (n + 1)) (vf_upd lp n pr) z.2.1.2.2.2 z.1.2.1 (po (5 * n) 5 lk it) z.2.1.1 z.2.1.2.1 z.2.2.1 z.2.2.2.2.1 (vp_updL fo (nI 0).toNatClampNeg 1)) H := hP
    have hD : va_D A (XWJ o9 cJ a cI cZ cD sh sw z.1.1 z.2.2.2.2.2 (po 0 5 it (fun _ => 0)) tu z.1.2.2.1 pr z.2.1.2.2.1 z.1.2.2.2 (nI z.2.2.2.1) (nI (n + 1)) (vf_upd lp n pr) z.2.1.2.2.2 z.1.2.1 (po (5 * n) 5 lk it) z.2.1.1 z.2.1.2.1 z.2.2.1 z.2.2.2.2.1 (vp_updL fo (nI 0).toNatClampNeg 1)) := hD
    have eb : bL (bI (over ((cT sw ts it tu lk (dts lu) n).2))) = 1 := if_neg c
    refine lv_goto (tgt := 25) hx hb dL_close_16 (by decide) ?_
    refine lv_iconst (v := nI 0) hx hb dL_close_25 (by decide) ?_
    refine W.endD hd1 ?_
    exact W.iret hx hb hr (fun t ht hW => ⟨⟨_, (z, vp_updL fo (nI 0).toNatClampNeg 1), rfl, ⟨rfl, by rw [eb] <;> rfl, hw2⟩, by rw [ht]; exact hP, va_K.moved hW.alike (xk_Kd hK), hD⟩, hS.F ht⟩) hS.2.2 dL_close_26
set_option maxHeartbeats 4000000 in
set_option maxRecDepth 100000 in
theorem mL_replaceV (l : Launch) (D : va_G) (cI cZ cD cJ : ClassId) (a : Nat → Nat) (o9 sz : Nat) (sh sw ts : Nat → Int32) (bi : Nat → UInt64) (it tu : Nat → Int32) (ne : Nat → UInt64) (pr so lo : UInt64) (wt : Int32) (lp lz lu : Nat → UInt64) (lk : Nat → Int32) (ld lf lb lw : Nat → UInt64) (fo : Nat → UInt64) (n o q : Nat) (use : Int32) (hn : n ≤ 60) (ho : o < 5) (hq : q < n) (hus : inR use 0 50) (hkn : lk (5 * q + o) = 0) : MetD lw_cs l yL_replace wsL_replace ({ frames := 2, cells := 0, slots := 0, locals := 48 } : Room) (va_Pc [.ref (a 0), .int (nI o), .int (nI q), .int use, .ref o9] (YP D cI cZ cD cJ (XWD o9 a cI cZ cD sh sw ts bi it tu ne pr so lo wt (nI n) lp lz lu lk ld lf lb lw fo) sz)) (va_Qi (fun (r : Int32) (u : ((Nat → UInt64)) × (Nat → UInt64)) => r = 0 ∧ dt (u.2 0) = dMul (dSub (dI use) (dts ld (5 * q + o))) (dts lp q) ∧ dts u.1 = va_up (dts bi) o (dAdd (dts bi o) (dMul (dSub (dI use) (dts ld (5 * q + o))) (dts lp q)))) (fun (u : ((Nat → UInt64)) × (Nat → UInt64)) t => YB D cI cZ cD cJ (XWD o9 a cI cZ cD sh sw ts u.1 it tu ne pr so lo wt (nI n) lp lz (vf_upd lu (5 * q + o) (FP.i2d use)) (upd lk (5 * q + o) 1) ld lf lb lw u.2) (va_A (XWD o9 a cI cZ cD sh sw ts bi it tu ne pr so lo wt (nI n) lp lz lu lk ld lf lb lw fo) sz) t) (va_A (XWD o9 a cI cZ cD sh sw ts bi it tu ne pr so lo wt (nI n) lp lz lu lk ld lf lb lw fo) sz)) 0 0 (va_A (XWD o9 a cI cZ cD sh sw ts bi it tu ne pr so lo wt (nI n) lp lz lu lk ld lf lb lw fo) sz) := by
  refine xd_MetW (cc := cL_replace) (maxL := 6) (ret := (some .int)) (hh := [(0, 11, 14, 13), (0, 11, 18, 37), (0, 11, 22, 15)]) (by decide +kernel) rfl ?_
  intro p e s m args below meth c s₁ B hml hv hd0
  obtain ⟨rfl, hsz, hP, hK, hD0⟩ := hv
  have hx := B.exec
  have hb := B.bytes
  have hr := B.returns
  have hts := atoms_spec (ws := wsL_replace) B.pre
  have hown : s.vm.findClass RL = some m.cls := findClass_of_methodNamed B.named
  have hlocks := B.notSynchronized
  subst hsz
  have hD := hD0.self (sz := s.heap.size)
  generalize hAe : va_A (XWD o9 a cI cZ cD sh sw ts bi it tu ne pr so lo wt (nI n) lp lz lu lk ld lf lb lw fo) s.heap.size = A at hD ⊢
  have hA : ∀ q : Nat, s.heap.size ≤ q → A q := fun q h => by rw [← hAe]; exact Or.inr h
  have hS : va_S A s.heap s.heap [] := va_S.rf
  have hl := lv_entry ([.ref (a 0), .int (nI o), .int (nI q), .int use, .ref o9]) (n := 6) (Nat.le_of_ble_eq_true rfl)
  rw [lg_entry_eq]
  generalize (lg_sl ([.ref (a 0), .int (nI o), .int (nI q), .int use, .ref o9]) ++ List.replicate (6 - (lg_sl ([.ref (a 0), .int (nI o), .int (nI q), .int use, .ref o9])).length) Slot.unset).toArray = ls at hl ⊢
  have hl : lv_has ls 6 [(0, .ref (a 0)), (1, .int (nI o)), (2, .int (nI q)), (3, .int use), (4, .ref o9)] := hl
  refine lv_aload hx hb dL_replace_0 (lv_at hl 4 rfl) ?_
  refine lv_iconst (v := nI 0) hx hb dL_replace_2 (by decide) ?_
  refine lv_aload_n hx hb dL_replace_3 rfl (lv_at hl 0 rfl) ?_
  refine lv_iload_n hx hb dL_replace_4 rfl (lv_at hl 1 rfl) ?_
  refine lv_iload_n hx hb dL_replace_5 rfl (lv_at hl 2 rfl) ?_
  refine lv_iload_n hx hb dL_replace_6 rfl (lv_at hl 3 rfl) ?_
  have hPx : va_P D vwCl (XW a cI cZ cD sh sw ts bi it tu ne pr so lo wt (nI n) lp lz lu lk ld lf lb lw) s.heap := hP.sub [0, 1, 2, 3, 4, 5, 6, 7, 8, 9, 10, 11, 12, 13, 14, 15, 16] rfl
  have hDx : va_D A (XW a cI cZ cD sh sw ts bi it tu ne pr so lo wt (nI n) lp lz lu lk ld lf lb lw) := hD.sub [0, 1, 2, 3, 4, 5, 6, 7, 8, 9, 10, 11, 12, 13, 14, 15, 16] (by decide) rfl
  have hFc := va_free (wc := XW a cI cZ cD sh sw ts bi it tu ne pr so lo wt (nI n) lp lz lu lk ld lf lb lw) hD hS hA [0, 1, 2, 3, 4, 5, 6, 7, 8, 9, 10, 11, 12, 13, 14, 15, 16] rfl
  refine va_calldD hd0 (va_runV_D (As := [.int (nI o), .int (nI q), .int use]) (rest := [.int (nI 0), .ref o9]) ⟨hx, hb, hml, (xk_od hown), (dr_words hts _)⟩ (mX1_replaceV l D cI cZ cD a _ sh sw ts bi it tu ne pr so lo wt lp lz lu lk ld lf lb lw n o q use hn ho hq hus hkn) (cwV 3 (dr_words hts _) gL_replace_X1_replace rfl rfl rfl (by decide +kernel) ⟨Nat.le_of_ble_eq_true rfl, Nat.le_of_ble_eq_true rfl⟩) ⟨xk_blind, va_recv (xk_Kd hK) hP (ci := 1) (q0 := 0) rfl rfl, xk_pre hPx ((yk_Kd hK).sub [0, 1, 2] rfl) hDx⟩ rfl rfl hl.1 rfl (lv_room (Nat.le_of_ble_eq_true rfl)) dL_replace_7 ⟨Nat.le_of_ble_eq_true rfl, Nat.le_of_ble_eq_true rfl⟩) hS (fun q _ h => hFc q h) hFc (fun r u t H locs ht hvm hw hB hz1 hk1 hS _ hd1 => ?_)
  obtain ⟨z, rfl⟩ : ∃ z, z = u := ⟨_, rfl⟩
  obtain ⟨hP1, -, hD1⟩ := hB
  rw [ht] at hP1
  obtain ⟨hP, hD⟩ := va_join (wr := [(o9, .inl (cD, 1, .inr (.inr (.inr (.inl (fo))))))]) (w1 := XW a cI cZ cD sh sw ts z it tu ne pr so lo wt (nI n) lp lz (vf_upd lu (5 * q + o) (FP.i2d use)) (upd lk (5 * q + o) 1) ld lf lb lw) hP hD [0, 1, 2, 3, 4, 5, 6, 7, 8, 9, 10, 11, 12, 13, 14, 15, 16] [17] rfl rfl (by decide) (by decide) hk1 hFc hP1 hD1
  have hP : va_P D vwCl (XWD o9 a cI cZ cD sh sw ts z it tu ne pr so lo wt (nI n) lp lz (vf_upd lu (5 * q + o) (FP.i2d use)) (upd lk (5 * q + o) 1) ld lf lb lw fo) H := hP.sub [1, 2, 3, 4, 5, 6, 7, 8, 9, 10, 11, 12, 13, 14, 15, 16, 17, 0] rfl
  have hD : va_D A (XWD o9 a cI cZ cD sh sw ts z it tu ne pr so lo wt (nI n) lp lz (vf_upd lu (5 * q + o) (FP.i2d use)) (upd lk (5 * q + o) 1) ld lf lb lw fo) := hD.sub [1, 2, 3, 4, 5, 6, 7, 8, 9, 10, 11, 12, 13, 14, 15, 16, 17, 0] (by decide) rfl
  refine xk_dast hx hb (xk_Kd hK) hP hD hS 17 2 rfl rfl (o := 0) (by decide) (by decide) dL_replace_10 (fun H locs hP hD hS => ?_)
  have hP : va_P D vwCl (XWD o9 a cI cZ cD sh sw ts z it tu ne pr so lo wt (nI n) lp lz (vf_upd lu (5 * q + o) (FP.i2d use)) (upd lk (5 * q + o) 1) ld lf lb lw (vf_upd fo 0 r)) H := hP
  have hD : va_D A (XWD o9 a cI cZ cD sh sw ts z it tu ne pr so lo wt (nI n) lp lz (vf_upd lu (5 * q + o) (FP.i2d use)) (upd lk (5 * q + o) 1) ld lf lb lw (vf_upd fo 0 r)) := hD
  refine lv_goto (tgt := 26) hx hb dL_replace_11 (by decide) ?_
  refine lv_iconst (v := nI 0) hx hb dL_replace_26 (by decide) ?_
  refine W.endD hd1 ?_
  exact W.iret hx hb hr (fun t ht hW => ⟨⟨_, (z, vf_upd fo 0 r), rfl, ⟨rfl, hw.1, hw.2⟩, by rw [ht]; exact hP, va_K.moved hW.alike (xk_Kd hK), hD⟩, hS.F ht⟩) hS.2.2 dL_replace_27
set_option maxHeartbeats 4000000 in
set_option maxRecDepth 100000 in
theorem mL_useV (l : Launch) (D : va_G) (cI cZ cD cJ : ClassId) (a : Nat → Nat) (o9 sz : Nat) (sh sw ts : Nat → Int32) (bi : Nat → UInt64) (it tu : Nat → Int32) (ne : Nat → UInt64) (pr so lo : UInt64) (wt : Int32) (lp lz lu : Nat → UInt64) (lk : Nat → Int32) (ld lf lb lw : Nat → UInt64) (fo : Nat → UInt64) (n o q : Nat) (hn : n ≤ 60) (ho : o < 5) (hq : q < n) : Met l yL_use wsL_use ({ frames := 3, cells := 0, slots := 0, locals := 65 } : Room) (va_Pc [.ref (a 0), .int (nI o), .int (nI q), .ref o9] (YP D cI cZ cD cJ (XWD o9 a cI cZ cD sh sw ts bi it tu ne pr so lo wt (nI n) lp lz lu lk ld lf lb lw fo) sz)) (va_Qi (fun (r : Int32) (u : (Unit) × (Nat → UInt64)) => r = 0 ∧ u.2 0 = lu (5 * q + o) ∧ True) (fun (u : (Unit) × (Nat → UInt64)) t => YB D cI cZ cD cJ (XWD o9 a cI cZ cD sh sw ts bi it tu ne pr so lo wt (nI n) lp lz lu lk ld lf lb lw u.2) (va_A (XWD o9 a cI cZ cD sh sw ts bi it tu ne pr so lo wt (nI n) lp lz lu lk ld lf lb lw fo) sz) t) (va_A (XWD o9 a cI cZ cD sh sw ts bi it tu ne pr so lo wt (nI n) lp lz lu lk ld lf lb lw fo) sz)) 0 0 (va_A (XWD o9 a cI cZ cD sh sw ts bi it tu ne pr so lo wt (nI n) lp lz lu lk ld lf lb lw fo) sz) := by
  refine va_MetW (cc := cL_use) (maxL := 5) (ret := (some .int)) (hh := [(0, 9, 12, 13), (0, 9, 16, 37)]) (by decide +kernel) rfl ?_
  intro p e s m args below meth c s₁ B hml hv
  obtain ⟨rfl, hsz, hP, hK, hD0⟩ := hv
  have hx := B.exec
  have hb := B.bytes
  have hr := B.returns
  have hts := atoms_spec (ws := wsL_use) B.pre
  have hown : s.vm.findClass RL = some m.cls := findClass_of_methodNamed B.named
  have hlocks := B.notSynchronized
  subst hsz
  have hD := hD0.self (sz := s.heap.size)
  generalize hAe : va_A (XWD o9 a cI cZ cD sh sw ts bi it tu ne pr so lo wt (nI n) lp lz lu lk ld lf lb lw fo) s.heap.size = A at hD ⊢
  have hA : ∀ q : Nat, s.heap.size ≤ q → A q := fun q h => by rw [← hAe]; exact Or.inr h
  have hS : va_S A s.heap s.heap [] := va_S.rf
  have hl := lv_entry ([.ref (a 0), .int (nI o), .int (nI q), .ref o9]) (n := 5) (Nat.le_of_ble_eq_true rfl)
  rw [lg_entry_eq]
  generalize (lg_sl ([.ref (a 0), .int (nI o), .int (nI q), .ref o9]) ++ List.replicate (5 - (lg_sl ([.ref (a 0), .int (nI o), .int (nI q), .ref o9])).length) Slot.unset).toArray = ls at hl ⊢
  have hl : lv_has ls 5 [(0, .ref (a 0)), (1, .int (nI o)), (2, .int (nI q)), (3, .ref o9)] := hl
  refine lv_aload_n hx hb dL_use_0 rfl (lv_at hl 3 rfl) ?_
  refine lv_iconst (v := nI 0) hx hb dL_use_1 (by decide) ?_
  refine lv_aload_n hx hb dL_use_2 rfl (lv_at hl 0 rfl) ?_
  refine lv_iload_n hx hb dL_use_3 rfl (lv_at hl 1 rfl) ?_
  refine lv_iload_n hx hb dL_use_4 rfl (lv_at hl 2 rfl) ?_
  have hPx : va_P D vwCl (XW a cI cZ cD sh sw ts bi it tu ne pr so lo wt (nI n) lp lz lu lk ld lf lb lw) s.heap := hP.sub [0, 1, 2, 3, 4, 5, 6, 7, 8, 9, 10, 11, 12, 13, 14, 15, 16] rfl
  have hDx : va_D A (XW a cI cZ cD sh sw ts bi it tu ne pr so lo wt (nI n) lp lz lu lk ld lf lb lw) := hD.sub [0, 1, 2, 3, 4, 5, 6, 7, 8, 9, 10, 11, 12, 13, 14, 15, 16] (by decide) rfl
  refine vp_callSd (va_Run.run (va_runV (As := [.int (nI o), .int (nI q)]) (rest := [.int (nI 0), .ref o9]) ⟨hx, hb, hml, hown, hts⟩ (mX1_useV l D cI cZ cD a _ sh sw ts bi it tu ne pr so lo wt lp lz lu lk ld lf lb lw n o q hn ho hq) (cwV 2 hts gL_use_X1_use rfl rfl rfl (by decide +kernel) ⟨Nat.le_of_ble_eq_true rfl, Nat.le_of_ble_eq_true rfl⟩) ⟨xk_blind, va_recv hK hP (ci := 1) (q0 := 0) rfl rfl, xk_pre hPx (hK.sub [0, 1, 2] rfl) hDx⟩ rfl rfl hl.1 rfl (lv_room (Nat.le_of_ble_eq_true rfl)) dL_use_5 ⟨Nat.le_of_ble_eq_true rfl, Nat.le_of_ble_eq_true rfl⟩)) (fun r hr1 => ?_)
  subst hr1
  refine xk_dast hx hb hK hP hD hS 17 2 rfl rfl (o := 0) (by decide) (by decide) dL_use_8 (fun H locs hP hD hS => ?_)
  have hP : va_P D vwCl (XWD o9 a cI cZ cD sh sw ts bi it tu ne pr so lo wt (nI n) lp lz lu lk ld lf lb lw (vf_upd fo 0 (lu (5 * q + o)))) H := hP
  have hD : va_D A (XWD o9 a cI cZ cD sh sw ts bi it tu ne pr so lo wt (nI n) lp lz lu lk ld lf lb lw (vf_upd fo 0 (lu (5 * q + o)))) := hD
  refine lv_goto (tgt := 20) hx hb dL_use_9 (by decide) ?_
  refine lv_iconst (v := nI 0) hx hb dL_use_20 (by decide) ?_
  exact W.iret hx hb hr (fun t ht hW => ⟨⟨_, ((), vf_upd fo 0 (lu (5 * q + o))), rfl, ⟨rfl, rfl, trivial⟩, by rw [ht]; exact hP, va_K.moved hW.alike hK, hD⟩, hS.F ht⟩) hS.2.2 dL_use_21
set_option maxHeartbeats 4000000 in
set_option maxRecDepth 100000 in
theorem mL_fromSunV (l : Launch) (D : va_G) (cI cZ cD cJ : ClassId) (a : Nat → Nat) (o9 sz : Nat) (sh sw ts : Nat → Int32) (bi : Nat → UInt64) (it tu : Nat → Int32) (ne : Nat → UInt64) (pr so lo : UInt64) (wt : Int32) (lp lz lu : Nat → UInt64) (lk : Nat → Int32) (ld lf lb lw : Nat → UInt64) (fo : Nat → UInt64) (n o q : Nat) (hn : n ≤ 60) (ho : o < 5) (hq : q < n) : Met l yL_fromSun wsL_fromSun ({ frames := 3, cells := 0, slots := 0, locals := 65 } : Room) (va_Pc [.ref (a 0), .int (nI o), .int (nI q), .ref o9] (YP D cI cZ cD cJ (XWD o9 a cI cZ cD sh sw ts bi it tu ne pr so lo wt (nI n) lp lz lu lk ld lf lb lw fo) sz)) (va_Qi (fun (r : Int32) (u : (Unit) × (Nat → UInt64)) => r = 0 ∧ u.2 0 = lf (5 * q + o) ∧ True) (fun (u : (Unit) × (Nat → UInt64)) t => YB D cI cZ cD cJ (XWD o9 a cI cZ cD sh sw ts bi it tu ne pr so lo wt (nI n) lp lz lu lk ld lf lb lw u.2) (va_A (XWD o9 a cI cZ cD sh sw ts bi it tu ne pr so lo wt (nI n) lp lz lu lk ld lf lb lw fo) sz) t) (va_A (XWD o9 a cI cZ cD sh sw ts bi it tu ne pr so lo wt (nI n) lp lz lu lk ld lf lb lw fo) sz)) 0 0 (va_A (XWD o9 a cI cZ cD sh sw ts bi it tu ne pr so lo wt (nI n) lp lz lu lk ld lf lb lw fo) sz) := by
  refine va_MetW (cc := cL_fromSun) (maxL := 5) (ret := (some .int)) (hh := [(0, 9, 12, 13), (0, 9, 16, 37)]) (by decide +kernel) rfl ?_
  intro p e s m args below meth c s₁ B hml hv
  obtain ⟨rfl, hsz, hP, hK, hD0⟩ := hv
  have hx := B.exec
  have hb := B.bytes
  have hr := B.returns
  have hts := atoms_spec (ws := wsL_fromSun) B.pre
  have hown : s.vm.findClass RL = some m.cls := findClass_of_methodNamed B.named
  have hlocks := B.notSynchronized
  subst hsz
  have hD := hD0.self (sz := s.heap.size)
  generalize hAe : va_A (XWD o9 a cI cZ cD sh sw ts bi it tu ne pr so lo wt (nI n) lp lz lu lk ld lf lb lw fo) s.heap.size = A at hD ⊢
  have hA : ∀ q : Nat, s.heap.size ≤ q → A q := fun q h => by rw [← hAe]; exact Or.inr h
  have hS : va_S A s.heap s.heap [] := va_S.rf
  have hl := lv_entry ([.ref (a 0), .int (nI o), .int (nI q), .ref o9]) (n := 5) (Nat.le_of_ble_eq_true rfl)
  rw [lg_entry_eq]
  generalize (lg_sl ([.ref (a 0), .int (nI o), .int (nI q), .ref o9]) ++ List.replicate (5 - (lg_sl ([.ref (a 0), .int (nI o), .int (nI q), .ref o9])).length) Slot.unset).toArray = ls at hl ⊢
  have hl : lv_has ls 5 [(0, .ref (a 0)), (1, .int (nI o)), (2, .int (nI q)), (3, .ref o9)] := hl
  refine lv_aload_n hx hb dL_fromSun_0 rfl (lv_at hl 3 rfl) ?_
  refine lv_iconst (v := nI 0) hx hb dL_fromSun_1 (by decide) ?_
  refine lv_aload_n hx hb dL_fromSun_2 rfl (lv_at hl 0 rfl) ?_
  refine lv_iload_n hx hb dL_fromSun_3 rfl (lv_at hl 1 rfl) ?_
  refine lv_iload_n hx hb dL_fromSun_4 rfl (lv_at hl 2 rfl) ?_
  have hPx : va_P D vwCl (XW a cI cZ cD sh sw ts bi it tu ne pr so lo wt (nI n) lp lz lu lk ld lf lb lw) s.heap := hP.sub [0, 1, 2, 3, 4, 5, 6, 7, 8, 9, 10, 11, 12, 13, 14, 15, 16] rfl
  have hDx : va_D A (XW a cI cZ cD sh sw ts bi it tu ne pr so lo wt (nI n) lp lz lu lk ld lf lb lw) := hD.sub [0, 1, 2, 3, 4, 5, 6, 7, 8, 9, 10, 11, 12, 13, 14, 15, 16] (by decide) rfl
  refine vp_callSd (va_Run.run (va_runV (As := [.int (nI o), .int (nI q)]) (rest := [.int (nI 0), .ref o9]) ⟨hx, hb, hml, hown, hts⟩ (mX1_fromSunV l D cI cZ cD a _ sh sw ts bi it tu ne pr so lo wt lp lz lu lk ld lf lb lw n o q hn ho hq) (cwV 2 hts gL_fromSun_X1_fromSun rfl rfl rfl (by decide +kernel) ⟨Nat.le_of_ble_eq_true rfl, Nat.le_of_ble_eq_true rfl⟩) ⟨xk_blind, va_recv hK hP (ci := 1) (q0 := 0) rfl rfl, xk_pre hPx (hK.sub [0, 1, 2] rfl) hDx⟩ rfl rfl hl.1 rfl (lv_room (Nat.le_of_ble_eq_true rfl)) dL_fromSun_5 ⟨Nat.le_of_ble_eq_true rfl, Nat.le_of_ble_eq_true rfl⟩)) (fun r hr1 => ?_)
  subst hr1
  refine xk_dast hx hb hK hP hD hS 17 2 rfl rfl (o := 0) (by decide) (by decide) dL_fromSun_8 (fun H locs hP hD hS => ?_)
  have hP : va_P D vwCl (XWD o9 a cI cZ cD sh sw ts bi it tu ne pr so lo wt (nI n) lp lz lu lk ld lf lb lw (vf_upd fo 0 (lf (5 * q + o)))) H := hP
  have hD : va_D A (XWD o9 a cI cZ cD sh sw ts bi it tu ne pr so lo wt (nI n) lp lz lu lk ld lf lb lw (vf_upd fo 0 (lf (5 * q + o)))) := hD
  refine lv_goto (tgt := 20) hx hb dL_fromSun_9 (by decide) ?_
  refine lv_iconst (v := nI 0) hx hb dL_fromSun_20 (by decide) ?_
  exact W.iret hx hb hr (fun t ht hW => ⟨⟨_, ((), vf_upd fo 0 (lf (5 * q + o))), rfl, ⟨rfl, rfl, trivial⟩, by rw [ht]; exact hP, va_K.moved hW.alike hK, hD⟩, hS.F ht⟩) hS.2.2 dL_fromSun_21
set_option maxHeartbeats 4000000 in
set_option maxRecDepth 100000 in
theorem mL_fromBatteryV (l : Launch) (D : va_G) (cI cZ cD cJ : ClassId) (a : Nat → Nat) (o9 sz : Nat) (sh sw ts : Nat → Int32) (bi : Nat → UInt64) (it tu : Nat → Int32) (ne : Nat → UInt64) (pr so lo : UInt64) (wt : Int32) (lp lz lu : Nat → UInt64) (lk : Nat → Int32) (ld lf lb lw : Nat → UInt64) (fo : Nat → UInt64) (n o q : Nat) (hn : n ≤ 60) (ho : o < 5) (hq : q < n) : Met l yL_fromBattery wsL_fromBattery ({ frames := 3, cells := 0, slots := 0, locals := 65 } : Room) (va_Pc [.ref (a 0), .int (nI o), .int (nI q), .ref o9] (YP D cI cZ cD cJ (XWD o9 a cI cZ cD sh sw ts bi it tu ne pr so lo wt (nI n) lp lz lu lk ld lf lb lw fo) sz)) (va_Qi (fun (r : Int32) (u : (Unit) × (Nat → UInt64)) => r = 0 ∧ u.2 0 = lb (5 * q + o) ∧ True) (fun (u : (Unit) × (Nat → UInt64)) t => YB D cI cZ cD cJ (XWD o9 a cI cZ cD sh sw ts bi it tu ne pr so lo wt (nI n) lp lz lu lk ld lf lb lw u.2) (va_A (XWD o9 a cI cZ cD sh sw ts bi it tu ne pr so lo wt (nI n) lp lz lu lk ld lf lb lw fo) sz) t) (va_A (XWD o9 a cI cZ cD sh sw ts bi it tu ne pr so lo wt (nI n) lp lz lu lk ld lf lb lw fo) sz)) 0 0 (va_A (XWD o9 a cI cZ cD sh sw ts bi it tu ne pr so lo wt (nI n) lp lz lu lk ld lf lb lw fo) sz) := by
  refine va_MetW (cc := cL_fromBattery) (maxL := 5) (ret := (some .int)) (hh := [(0, 9, 12, 13), (0, 9, 16, 37)]) (by decide +kernel) rfl ?_
  intro p e s m args below meth c s₁ B hml hv
  obtain ⟨rfl, hsz, hP, hK, hD0⟩ := hv
  have hx := B.exec
  have hb := B.bytes
  have hr := B.returns
  have hts := atoms_spec (ws := wsL_fromBattery) B.pre
  have hown : s.vm.findClass RL = some m.cls := findClass_of_methodNamed B.named
  have hlocks := B.notSynchronized
  subst hsz
  have hD := hD0.self (sz := s.heap.size)
  generalize hAe : va_A (XWD o9 a cI cZ cD sh sw ts bi it tu ne pr so lo wt (nI n) lp lz lu lk ld lf lb lw fo) s.heap.size = A at hD ⊢
  have hA : ∀ q : Nat, s.heap.size ≤ q → A q := fun q h => by rw [← hAe]; exact Or.inr h
  have hS : va_S A s.heap s.heap [] := va_S.rf
  have hl := lv_entry ([.ref (a 0), .int (nI o), .int (nI q), .ref o9]) (n := 5) (Nat.le_of_ble_eq_true rfl)
  rw [lg_entry_eq]
  generalize (lg_sl ([.ref (a 0), .int (nI o), .int (nI q), .ref o9]) ++ List.replicate (5 - (lg_sl ([.ref (a 0), .int (nI o), .int (nI q), .ref o9])).length) Slot.unset).toArray = ls at hl ⊢
  have hl : lv_has ls 5 [(0, .ref (a 0)), (1, .int (nI o)), (2, .int (nI q)), (3, .ref o9)] := hl
  refine lv_aload_n hx hb dL_fromBattery_0 rfl (lv_at hl 3 rfl) ?_
  refine lv_iconst (v := nI 0) hx hb dL_fromBattery_1 (by decide) ?_
  refine lv_aload_n hx hb dL_fromBattery_2 rfl (lv_at hl 0 rfl) ?_
  refine lv_iload_n hx hb dL_fromBattery_3 rfl (lv_at hl 1 rfl) ?_
  refine lv_iload_n hx hb dL_fromBattery_4 rfl (lv_at hl 2 rfl) ?_
  have hPx : va_P D vwCl (XW a cI cZ cD sh sw ts bi it tu ne pr so lo wt (nI n) lp lz lu lk ld lf lb lw) s.heap := hP.sub [0, 1, 2, 3, 4, 5, 6, 7, 8, 9, 10, 11, 12, 13, 14, 15, 16] rfl
  have hDx : va_D A (XW a cI cZ cD sh sw ts bi it tu ne pr so lo wt (nI n) lp lz lu lk ld lf lb lw) := hD.sub [0, 1, 2, 3, 4, 5, 6, 7, 8, 9, 10, 11, 12, 13, 14, 15, 16] (by decide) rfl
  refine vp_callSd (va_Run.run (va_runV (As := [.int (nI o), .int (nI q)]) (rest := [.int (nI 0), .ref o9]) ⟨hx, hb, hml, hown, hts⟩ (mX1_fromBatteryV l D cI cZ cD a _ sh sw ts bi it tu ne pr so lo wt lp lz lu lk ld lf lb lw n o q hn ho hq) (cwV 2 hts gL_fromBattery_X1_fromBattery rfl rfl rfl (by decide +kernel) ⟨Nat.le_of_ble_eq_true rfl, Nat.le_of_ble_eq_true rfl⟩) ⟨xk_blind, va_recv hK hP (ci := 1) (q0 := 0) rfl rfl, xk_pre hPx (hK.sub [0, 1, 2] rfl) hDx⟩ rfl rfl hl.1 rfl (lv_room (Nat.le_of_ble_eq_true rfl)) dL_fromBattery_5 ⟨Nat.le_of_ble_eq_true rfl, Nat.le_of_ble_eq_true rfl⟩)) (fun r hr1 => ?_)
  subst hr1
  refine xk_dast hx hb hK hP hD hS 17 2 rfl rfl (o := 0) (by decide) (by decide) dL_fromBattery_8 (fun H locs hP hD hS => ?_)
  have hP : va_P D vwCl (XWD o9 a cI cZ cD sh sw ts bi it tu ne pr so lo wt (nI n) lp lz lu lk ld lf lb lw (vf_upd fo 0 (lb (5 * q + o)))) H := hP
  have hD : va_D A (XWD o9 a cI cZ cD sh sw ts bi it tu ne pr so lo wt (nI n) lp lz lu lk ld lf lb lw (vf_upd fo 0 (lb (5 * q + o)))) := hD
  refine lv_goto (tgt := 20) hx hb dL_fromBattery_9 (by decide) ?_
  refine lv_iconst (v := nI 0) hx hb dL_fromBattery_20 (by decide) ?_
  exact W.iret hx hb hr (fun t ht hW => ⟨⟨_, ((), vf_upd fo 0 (lb (5 * q + o))), rfl, ⟨rfl, rfl, trivial⟩, by rw [ht]; exact hP, va_K.moved hW.alike hK, hD⟩, hS.F ht⟩) hS.2.2 dL_fromBattery_21
set_option maxHeartbeats 4000000 in
set_option maxRecDepth 100000 in
theorem mL_boughtV (l : Launch) (D : va_G) (cI cZ cD cJ : ClassId) (a : Nat → Nat) (o9 sz : Nat) (sh sw ts : Nat → Int32) (bi : Nat → UInt64) (it tu : Nat → Int32) (ne : Nat → UInt64) (pr so lo : UInt64) (wt : Int32) (lp lz lu : Nat → UInt64) (lk : Nat → Int32) (ld lf lb lw : Nat → UInt64) (fo : Nat → UInt64) (n o q : Nat) (hn : n ≤ 60) (ho : o < 5) (hq : q < n) : Met l yL_bought wsL_bought ({ frames := 3, cells := 0, slots := 0, locals := 65 } : Room) (va_Pc [.ref (a 0), .int (nI o), .int (nI q), .ref o9] (YP D cI cZ cD cJ (XWD o9 a cI cZ cD sh sw ts bi it tu ne pr so lo wt (nI n) lp lz lu lk ld lf lb lw fo) sz)) (va_Qi (fun (r : Int32) (u : (Unit) × (Nat → UInt64)) => r = 0 ∧ u.2 0 = lw (5 * q + o) ∧ True) (fun (u : (Unit) × (Nat → UInt64)) t => YB D cI cZ cD cJ (XWD o9 a cI cZ cD sh sw ts bi it tu ne pr so lo wt (nI n) lp lz lu lk ld lf lb lw u.2) (va_A (XWD o9 a cI cZ cD sh sw ts bi it tu ne pr so lo wt (nI n) lp lz lu lk ld lf lb lw fo) sz) t) (va_A (XWD o9 a cI cZ cD sh sw ts bi it tu ne pr so lo wt (nI n) lp lz lu lk ld lf lb lw fo) sz)) 0 0 (va_A (XWD o9 a cI cZ cD sh sw ts bi it tu ne pr so lo wt (nI n) lp lz lu lk ld lf lb lw fo) sz) := by
  refine va_MetW (cc := cL_bought) (maxL := 5) (ret := (some .int)) (hh := [(0, 9, 12, 13), (0, 9, 16, 37)]) (by decide +kernel) rfl ?_
  intro p e s m args below meth c s₁ B hml hv
  obtain ⟨rfl, hsz, hP, hK, hD0⟩ := hv
  have hx := B.exec
  have hb := B.bytes
  have hr := B.returns
  have hts := atoms_spec (ws := wsL_bought) B.pre
  have hown : s.vm.findClass RL = some m.cls := findClass_of_methodNamed B.named
  have hlocks := B.notSynchronized
  subst hsz
  have hD := hD0.self (sz := s.heap.size)
  generalize hAe : va_A (XWD o9 a cI cZ cD sh sw ts bi it tu ne pr so lo wt (nI n) lp lz lu lk ld lf lb lw fo) s.heap.size = A at hD ⊢
  have hA : ∀ q : Nat, s.heap.size ≤ q → A q := fun q h => by rw [← hAe]; exact Or.inr h
  have hS : va_S A s.heap s.heap [] := va_S.rf
  have hl := lv_entry ([.ref (a 0), .int (nI o), .int (nI q), .ref o9]) (n := 5) (Nat.le_of_ble_eq_true rfl)
  rw [lg_entry_eq]
  generalize (lg_sl ([.ref (a 0), .int (nI o), .int (nI q), .ref o9]) ++ List.replicate (5 - (lg_sl ([.ref (a 0), .int (nI o), .int (nI q), .ref o9])).length) Slot.unset).toArray = ls at hl ⊢
  have hl : lv_has ls 5 [(0, .ref (a 0)), (1, .int (nI o)), (2, .int (nI q)), (3, .ref o9)] := hl
  refine lv_aload_n hx hb dL_bought_0 rfl (lv_at hl 3 rfl) ?_
  refine lv_iconst (v := nI 0) hx hb dL_bought_1 (by decide) ?_
  refine lv_aload_n hx hb dL_bought_2 rfl (lv_at hl 0 rfl) ?_
  refine lv_iload_n hx hb dL_bought_3 rfl (lv_at hl 1 rfl) ?_
  refine lv_iload_n hx hb dL_bought_4 rfl (lv_at hl 2 rfl) ?_
  have hPx : va_P D vwCl (XW a cI cZ cD sh sw ts bi it tu ne pr so lo wt (nI n) lp lz lu lk ld lf lb lw) s.heap := hP.sub [0, 1, 2, 3, 4, 5, 6, 7, 8, 9, 10, 11, 12, 13, 14, 15, 16] rfl
  have hDx : va_D A (XW a cI cZ cD sh sw ts bi it tu ne pr so lo wt (nI n) lp lz lu lk ld lf lb lw) := hD.sub [0, 1, 2, 3, 4, 5, 6, 7, 8, 9, 10, 11, 12, 13, 14, 15, 16] (by decide) rfl
  refine vp_callSd (va_Run.run (va_runV (As := [.int (nI o), .int (nI q)]) (rest := [.int (nI 0), .ref o9]) ⟨hx, hb, hml, hown, hts⟩ (mX1_boughtV l D cI cZ cD a _ sh sw ts bi it tu ne pr so lo wt lp lz lu lk ld lf lb lw n o q hn ho hq) (cwV 2 hts gL_bought_X1_bought rfl rfl rfl (by decide +kernel) ⟨Nat.le_of_ble_eq_true rfl, Nat.le_of_ble_eq_true rfl⟩) ⟨xk_blind, va_recv hK hP (ci := 1) (q0 := 0) rfl rfl, xk_pre hPx (hK.sub [0, 1, 2] rfl) hDx⟩ rfl rfl hl.1 rfl (lv_room (Nat.le_of_ble_eq_true rfl)) dL_bought_5 ⟨Nat.le_of_ble_eq_true rfl, Nat.le_of_ble_eq_true rfl⟩)) (fun r hr1 => ?_)
  subst hr1
  refine xk_dast hx hb hK hP hD hS 17 2 rfl rfl (o := 0) (by decide) (by decide) dL_bought_8 (fun H locs hP hD hS => ?_)
  have hP : va_P D vwCl (XWD o9 a cI cZ cD sh sw ts bi it tu ne pr so lo wt (nI n) lp lz lu lk ld lf lb lw (vf_upd fo 0 (lw (5 * q + o)))) H := hP
  have hD : va_D A (XWD o9 a cI cZ cD sh sw ts bi it tu ne pr so lo wt (nI n) lp lz lu lk ld lf lb lw (vf_upd fo 0 (lw (5 * q + o)))) := hD
  refine lv_goto (tgt := 20) hx hb dL_bought_9 (by decide) ?_
  refine lv_iconst (v := nI 0) hx hb dL_bought_20 (by decide) ?_
  exact W.iret hx hb hr (fun t ht hW => ⟨⟨_, ((), vf_upd fo 0 (lw (5 * q + o))), rfl, ⟨rfl, rfl, trivial⟩, by rw [ht]; exact hP, va_K.moved hW.alike hK, hD⟩, hS.F ht⟩) hS.2.2 dL_bought_21
set_option maxHeartbeats 4000000 in
set_option maxRecDepth 100000 in
theorem mL_soldV (l : Launch) (D : va_G) (cI cZ cD cJ : ClassId) (a : Nat → Nat) (o9 sz : Nat) (sh sw ts : Nat → Int32) (bi : Nat → UInt64) (it tu : Nat → Int32) (ne : Nat → UInt64) (pr so lo : UInt64) (wt : Int32) (lp lz lu : Nat → UInt64) (lk : Nat → Int32) (ld lf lb lw : Nat → UInt64) (fo : Nat → UInt64) (n q : Nat) (hn : n ≤ 60) (hq : q < n) : Met l yL_sold wsL_sold ({ frames := 2, cells := 0, slots := 0, locals := 42 } : Room) (va_Pc [.ref (a 0), .int (nI q), .ref o9] (YP D cI cZ cD cJ (XWD o9 a cI cZ cD sh sw ts bi it tu ne pr so lo wt (nI n) lp lz lu lk ld lf lb lw fo) sz)) (va_Qi (fun (r : Int32) (u : (Unit) × (Nat → UInt64)) => r = 0 ∧ u.2 0 = lz q ∧ True) (fun (u : (Unit) × (Nat → UInt64)) t => YB D cI cZ cD cJ (XWD o9 a cI cZ cD sh sw ts bi it tu ne pr so lo wt (nI n) lp lz lu lk ld lf lb lw u.2) (va_A (XWD o9 a cI cZ cD sh sw ts bi it tu ne pr so lo wt (nI n) lp lz lu lk ld lf lb lw fo) sz) t) (va_A (XWD o9 a cI cZ cD sh sw ts bi it tu ne pr so lo wt (nI n) lp lz lu lk ld lf lb lw fo) sz)) 0 0 (va_A (XWD o9 a cI cZ cD sh sw ts bi it tu ne pr so lo wt (nI n) lp lz lu lk ld lf lb lw fo) sz) := by
  refine va_MetW (cc := cL_sold) (maxL := 4) (ret := (some .int)) (hh := [(0, 8, 11, 37)]) (by decide +kernel) rfl ?_
  intro p e s m args below meth c s₁ B hml hv
  obtain ⟨rfl, hsz, hP, hK, hD0⟩ := hv
  have hx := B.exec
  have hb := B.bytes
  have hr := B.returns
  have hts := atoms_spec (ws := wsL_sold) B.pre
  have hown : s.vm.findClass RL = some m.cls := findClass_of_methodNamed B.named
  have hlocks := B.notSynchronized
  subst hsz
  have hD := hD0.self (sz := s.heap.size)
  generalize hAe : va_A (XWD o9 a cI cZ cD sh sw ts bi it tu ne pr so lo wt (nI n) lp lz lu lk ld lf lb lw fo) s.heap.size = A at hD ⊢
  have hA : ∀ q : Nat, s.heap.size ≤ q → A q := fun q h => by rw [← hAe]; exact Or.inr h
  have hS : va_S A s.heap s.heap [] := va_S.rf
  have hl := lv_entry ([.ref (a 0), .int (nI q), .ref o9]) (n := 4) (Nat.le_of_ble_eq_true rfl)
  rw [lg_entry_eq]
  generalize (lg_sl ([.ref (a 0), .int (nI q), .ref o9]) ++ List.replicate (4 - (lg_sl ([.ref (a 0), .int (nI q), .ref o9])).length) Slot.unset).toArray = ls at hl ⊢
  have hl : lv_has ls 4 [(0, .ref (a 0)), (1, .int (nI q)), (2, .ref o9)] := hl
  refine lv_aload_n hx hb dL_sold_0 rfl (lv_at hl 2 rfl) ?_
  refine lv_iconst (v := nI 0) hx hb dL_sold_1 (by decide) ?_
  refine lv_aload_n hx hb dL_sold_2 rfl (lv_at hl 0 rfl) ?_
  refine lv_iload_n hx hb dL_sold_3 rfl (lv_at hl 1 rfl) ?_
  have hPx : va_P D vwCl (XW a cI cZ cD sh sw ts bi it tu ne pr so lo wt (nI n) lp lz lu lk ld lf lb lw) s.heap := hP.sub [0, 1, 2, 3, 4, 5, 6, 7, 8, 9, 10, 11, 12, 13, 14, 15, 16] rfl
  have hDx : va_D A (XW a cI cZ cD sh sw ts bi it tu ne pr so lo wt (nI n) lp lz lu lk ld lf lb lw) := hD.sub [0, 1, 2, 3, 4, 5, 6, 7, 8, 9, 10, 11, 12, 13, 14, 15, 16] (by decide) rfl
  refine vp_callSd (va_Run.run (va_runV (As := [.int (nI q)]) (rest := [.int (nI 0), .ref o9]) ⟨hx, hb, hml, hown, hts⟩ (mX1_soldV l D cI cZ cD a _ sh sw ts bi it tu ne pr so lo wt lp lz lu lk ld lf lb lw n q hn hq) (cwV 1 hts gL_sold_X1_sold rfl rfl rfl (by decide +kernel) ⟨Nat.le_of_ble_eq_true rfl, Nat.le_of_ble_eq_true rfl⟩) ⟨xk_blind, va_recv hK hP (ci := 1) (q0 := 0) rfl rfl, xk_pre hPx (hK.sub [0, 1, 2] rfl) hDx⟩ rfl rfl hl.1 rfl (lv_room (Nat.le_of_ble_eq_true rfl)) dL_sold_4 ⟨Nat.le_of_ble_eq_true rfl, Nat.le_of_ble_eq_true rfl⟩)) (fun r hr1 => ?_)
  subst hr1
  refine xk_dast hx hb hK hP hD hS 17 2 rfl rfl (o := 0) (by decide) (by decide) dL_sold_7 (fun H locs hP hD hS => ?_)
  have hP : va_P D vwCl (XWD o9 a cI cZ cD sh sw ts bi it tu ne pr so lo wt (nI n) lp lz lu lk ld lf lb lw (vf_upd fo 0 (lz q))) H := hP
  have hD : va_D A (XWD o9 a cI cZ cD sh sw ts bi it tu ne pr so lo wt (nI n) lp lz lu lk ld lf lb lw (vf_upd fo 0 (lz q))) := hD
  refine lv_goto (tgt := 14) hx hb dL_sold_8 (by decide) ?_
  refine lv_iconst (v := nI 0) hx hb dL_sold_14 (by decide) ?_
  exact W.iret hx hb hr (fun t ht hW => ⟨⟨_, ((), vf_upd fo 0 (lz q)), rfl, ⟨rfl, rfl, trivial⟩, by rw [ht]; exact hP, va_K.moved hW.alike hK, hD⟩, hS.F ht⟩) hS.2.2 dL_sold_15
set_option maxHeartbeats 4000000 in
set_option maxRecDepth 100000 in
theorem mL_shedsV (l : Launch) (D : va_G) (cI cZ cD cJ : ClassId) (a : Nat → Nat) (o9 sz : Nat) (sh sw ts : Nat → Int32) (bi : Nat → UInt64) (it tu : Nat → Int32) (ne : Nat → UInt64) (pr so lo : UInt64) (wt cn : Int32) (lp lz lu : Nat → UInt64) (lk : Nat → Int32) (ld lf lb lw : Nat → UInt64) (fo : Nat → Int64) (o : Nat) (ho : o < 5) : Met l yL_sheds wsL_sheds ({ frames := 2, cells := 0, slots := 0, locals := 41 } : Room) (va_Pc [.ref (a 0), .int (nI o), .ref o9] (YP D cI cZ cD cJ (XWJ o9 cJ a cI cZ cD sh sw ts bi it tu ne pr so lo wt cn lp lz lu lk ld lf lb lw fo) sz)) (va_Qi (fun (r : Int32) (u : (Unit) × (Nat → Int64)) => r = 0 ∧ u.2 0 = (ts o).toInt64 ∧ True) (fun (u : (Unit) × (Nat → Int64)) t => YB D cI cZ cD cJ (XWJ o9 cJ a cI cZ cD sh sw ts bi it tu ne pr so lo wt cn lp lz lu lk ld lf lb lw u.2) (va_A (XWJ o9 cJ a cI cZ cD sh sw ts bi it tu ne pr so lo wt cn lp lz lu lk ld lf lb lw fo) sz) t) (va_A (XWJ o9 cJ a cI cZ cD sh sw ts bi it tu ne pr so lo wt cn lp lz lu lk ld lf lb lw fo) sz)) 0 0 (va_A (XWJ o9 cJ a cI cZ cD sh sw ts bi it tu ne pr so lo wt cn lp lz lu lk ld lf lb lw fo) sz) := by
  refine va_MetW (cc := cL_sheds) (maxL := 4) (ret := (some .int)) (hh := [(0, 9, 12, 13)]) (by decide +kernel) rfl ?_
  intro p e s m args below meth c s₁ B hml hv
  obtain ⟨rfl, hsz, hP, hK, hD0⟩ := hv
  have hx := B.exec
  have hb := B.bytes
  have hr := B.returns
  have hts := atoms_spec (ws := wsL_sheds) B.pre
  have hown : s.vm.findClass RL = some m.cls := findClass_of_methodNamed B.named
  have hlocks := B.notSynchronized
  subst hsz
  have hD := hD0.self (sz := s.heap.size)
  generalize hAe : va_A (XWJ o9 cJ a cI cZ cD sh sw ts bi it tu ne pr so lo wt cn lp lz lu lk ld lf lb lw fo) s.heap.size = A at hD ⊢
  have hA : ∀ q : Nat, s.heap.size ≤ q → A q := fun q h => by rw [← hAe]; exact Or.inr h
  have hS : va_S A s.heap s.heap [] := va_S.rf
  have hl := lv_entry ([.ref (a 0), .int (nI o), .ref o9]) (n := 4) (Nat.le_of_ble_eq_true rfl)
  rw [lg_entry_eq]
  generalize (lg_sl ([.ref (a 0), .int (nI o), .ref o9]) ++ List.replicate (4 - (lg_sl ([.ref (a 0), .int (nI o), .ref o9])).length) Slot.unset).toArray = ls at hl ⊢
  have hl : lv_has ls 4 [(0, .ref (a 0)), (1, .int (nI o)), (2, .ref o9)] := hl
  refine lv_aload_n hx hb dL_sheds_0 rfl (lv_at hl 2 rfl) ?_
  refine lv_iconst (v := nI 0) hx hb dL_sheds_1 (by decide) ?_
  refine lv_aload_n hx hb dL_sheds_2 rfl (lv_at hl 0 rfl) ?_
  refine lv_iload_n hx hb dL_sheds_3 rfl (lv_at hl 1 rfl) ?_
  have hPx : va_P D vwCl (XW a cI cZ cD sh sw ts bi it tu ne pr so lo wt cn lp lz lu lk ld lf lb lw) s.heap := hP.sub [0, 1, 2, 3, 4, 5, 6, 7, 8, 9, 10, 11, 12, 13, 14, 15, 16] rfl
  have hDx : va_D A (XW a cI cZ cD sh sw ts bi it tu ne pr so lo wt cn lp lz lu lk ld lf lb lw) := hD.sub [0, 1, 2, 3, 4, 5, 6, 7, 8, 9, 10, 11, 12, 13, 14, 15, 16] (by decide) rfl
  refine vp_callSi (va_Run.run (va_runV (As := [.int (nI o)]) (rest := [.int (nI 0), .ref o9]) ⟨hx, hb, hml, hown, hts⟩ (mX1_shedsV l D cI cZ cD a _ sh sw ts bi it tu ne pr so lo wt cn lp lz lu lk ld lf lb lw o ho) (cwV 1 hts gL_sheds_X1_sheds rfl rfl rfl (by decide +kernel) ⟨Nat.le_of_ble_eq_true rfl, Nat.le_of_ble_eq_true rfl⟩) ⟨xk_blind, va_recv hK hP (ci := 1) (q0 := 0) rfl rfl, xk_pre hPx (hK.sub [0, 1, 2] rfl) hDx⟩ rfl rfl hl.1 rfl (lv_room (Nat.le_of_ble_eq_true rfl)) dL_sheds_4 ⟨Nat.le_of_ble_eq_true rfl, Nat.le_of_ble_eq_true rfl⟩)) (fun r hr1 => ?_)
  subst hr1
  refine lv_i2l (v := (ts o).toInt64) hx hb dL_sheds_7 rfl ?_
  refine va_last hx hb hK hP hD hS 17 3 rfl rfl (i := nI 0) (vp_in_nI (by decide) (by decide)) dL_sheds_8 (fun H locs hP hD hS => ?_)
  have hP : va_P D vwCl (XWJ o9 cJ a cI cZ cD sh sw ts bi it tu ne pr so lo wt cn lp lz lu lk ld lf lb lw (vp_updL fo (nI 0).toNatClampNeg ((ts o).toInt64))) H := hP
  have hD : va_D A (XWJ o9 cJ a cI cZ cD sh sw ts bi it tu ne pr so lo wt cn lp lz lu lk ld lf lb lw (vp_updL fo (nI 0).toNatClampNeg ((ts o).toInt64))) := hD
  refine lv_goto (tgt := 15) hx hb dL_sheds_9 (by decide) ?_
  refine lv_iconst (v := nI 0) hx hb dL_sheds_15 (by decide) ?_
  exact W.iret hx hb hr (fun t ht hW => ⟨⟨_, ((), vp_updL fo (nI 0).toNatClampNeg ((ts o).toInt64)), rfl, ⟨rfl, rfl, trivial⟩, by rw [ht]; exact hP, va_K.moved hW.alike hK, hD⟩, hS.F ht⟩) hS.2.2 dL_sheds_16
set_option maxHeartbeats 4000000 in
set_option maxRecDepth 100000 in
theorem mL_billV (l : Launch) (D : va_G) (cI cZ cD cJ : ClassId) (a : Nat → Nat) (o9 sz : Nat) (sh sw ts : Nat → Int32) (bi : Nat → UInt64) (it tu : Nat → Int32) (ne : Nat → UInt64) (pr so lo : UInt64) (wt cn : Int32) (lp lz lu : Nat → UInt64) (lk : Nat → Int32) (ld lf lb lw : Nat → UInt64) (fo : Nat → UInt64) (o : Nat) (ho : o < 5) : Met l yL_bill wsL_bill ({ frames := 2, cells := 0, slots := 0, locals := 41 } : Room) (va_Pc [.ref (a 0), .int (nI o), .ref o9] (YP D cI cZ cD cJ (XWD o9 a cI cZ cD sh sw ts bi it tu ne pr so lo wt cn lp lz lu lk ld lf lb lw fo) sz)) (va_Qi (fun (r : Int32) (u : (Unit) × (Nat → UInt64)) => r = 0 ∧ u.2 0 = bi o ∧ True) (fun (u : (Unit) × (Nat → UInt64)) t => YB D cI cZ cD cJ (XWD o9 a cI cZ cD sh sw ts bi it tu ne pr so lo wt cn lp lz lu lk ld lf lb lw u.2) (va_A (XWD o9 a cI cZ cD sh sw ts bi it tu ne pr so lo wt cn lp lz lu lk ld lf lb lw fo) sz) t) (va_A (XWD o9 a cI cZ cD sh sw ts bi it tu ne pr so lo wt cn lp lz lu lk ld lf lb lw fo) sz)) 0 0 (va_A (XWD o9 a cI cZ cD sh sw ts bi it tu ne pr so lo wt cn lp lz lu lk ld lf lb lw fo) sz) := by
  refine va_MetW (cc := cL_bill) (maxL := 4) (ret := (some .int)) (hh := [(0, 8, 11, 13)]) (by decide +kernel) rfl ?_
  intro p e s m args below meth c s₁ B hml hv
  obtain ⟨rfl, hsz, hP, hK, hD0⟩ := hv
  have hx := B.exec
  have hb := B.bytes
  have hr := B.returns
  have hts := atoms_spec (ws := wsL_bill) B.pre
  have hown : s.vm.findClass RL = some m.cls := findClass_of_methodNamed B.named
  have hlocks := B.notSynchronized
  subst hsz
  have hD := hD0.self (sz := s.heap.size)
  generalize hAe : va_A (XWD o9 a cI cZ cD sh sw ts bi it tu ne pr so lo wt cn lp lz lu lk ld lf lb lw fo) s.heap.size = A at hD ⊢
  have hA : ∀ q : Nat, s.heap.size ≤ q → A q := fun q h => by rw [← hAe]; exact Or.inr h
  have hS : va_S A s.heap s.heap [] := va_S.rf
  have hl := lv_entry ([.ref (a 0), .int (nI o), .ref o9]) (n := 4) (Nat.le_of_ble_eq_true rfl)
  rw [lg_entry_eq]
  generalize (lg_sl ([.ref (a 0), .int (nI o), .ref o9]) ++ List.replicate (4 - (lg_sl ([.ref (a 0), .int (nI o), .ref o9])).length) Slot.unset).toArray = ls at hl ⊢
  have hl : lv_has ls 4 [(0, .ref (a 0)), (1, .int (nI o)), (2, .ref o9)] := hl
  refine lv_aload_n hx hb dL_bill_0 rfl (lv_at hl 2 rfl) ?_
  refine lv_iconst (v := nI 0) hx hb dL_bill_1 (by decide) ?_
  refine lv_aload_n hx hb dL_bill_2 rfl (lv_at hl 0 rfl) ?_
  refine lv_iload_n hx hb dL_bill_3 rfl (lv_at hl 1 rfl) ?_
  have hPx : va_P D vwCl (XW a cI cZ cD sh sw ts bi it tu ne pr so lo wt cn lp lz lu lk ld lf lb lw) s.heap := hP.sub [0, 1, 2, 3, 4, 5, 6, 7, 8, 9, 10, 11, 12, 13, 14, 15, 16] rfl
  have hDx : va_D A (XW a cI cZ cD sh sw ts bi it tu ne pr so lo wt cn lp lz lu lk ld lf lb lw) := hD.sub [0, 1, 2, 3, 4, 5, 6, 7, 8, 9, 10, 11, 12, 13, 14, 15, 16] (by decide) rfl
  refine vp_callSd (va_Run.run (va_runV (As := [.int (nI o)]) (rest := [.int (nI 0), .ref o9]) ⟨hx, hb, hml, hown, hts⟩ (mX1_billV l D cI cZ cD a _ sh sw ts bi it tu ne pr so lo wt cn lp lz lu lk ld lf lb lw o ho) (cwV 1 hts gL_bill_X1_bill rfl rfl rfl (by decide +kernel) ⟨Nat.le_of_ble_eq_true rfl, Nat.le_of_ble_eq_true rfl⟩) ⟨xk_blind, va_recv hK hP (ci := 1) (q0 := 0) rfl rfl, xk_pre hPx (hK.sub [0, 1, 2] rfl) hDx⟩ rfl rfl hl.1 rfl (lv_room (Nat.le_of_ble_eq_true rfl)) dL_bill_4 ⟨Nat.le_of_ble_eq_true rfl, Nat.le_of_ble_eq_true rfl⟩)) (fun r hr1 => ?_)
  subst hr1
  refine xk_dast hx hb hK hP hD hS 17 2 rfl rfl (o := 0) (by decide) (by decide) dL_bill_7 (fun H locs hP hD hS => ?_)
  have hP : va_P D vwCl (XWD o9 a cI cZ cD sh sw ts bi it tu ne pr so lo wt cn lp lz lu lk ld lf lb lw (vf_upd fo 0 (bi o))) H := hP
  have hD : va_D A (XWD o9 a cI cZ cD sh sw ts bi it tu ne pr so lo wt cn lp lz lu lk ld lf lb lw (vf_upd fo 0 (bi o))) := hD
  refine lv_goto (tgt := 14) hx hb dL_bill_8 (by decide) ?_
  refine lv_iconst (v := nI 0) hx hb dL_bill_14 (by decide) ?_
  exact W.iret hx hb hr (fun t ht hW => ⟨⟨_, ((), vf_upd fo 0 (bi o)), rfl, ⟨rfl, rfl, trivial⟩, by rw [ht]; exact hP, va_K.moved hW.alike hK, hD⟩, hS.F ht⟩) hS.2.2 dL_bill_15
