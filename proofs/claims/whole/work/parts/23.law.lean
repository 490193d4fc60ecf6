/-! THE LAW -/
set_option maxHeartbeats 4000000 in
set_option maxRecDepth 100000 in
theorem law_loop {p : Program} {l : Launch} {e : Env} {s : State} {m : MethodId} {below : List Frame} {meth : Method} {c : Code} {b9 L : Nat} {xs : Nat → Int32} {D : va_G} {cI cZ cD cJ : ClassId} (C : LC l p s m meth c b9 L xs D cI cZ cD cJ) {a b : Nat → Nat} {o9 o8 : Nat} {H : Heap} {locs : List Loc} {ls : Array Slot} {d : Drawn} (hI : LInv s D cI cZ cD cJ a b b9 o9 o8 0 H locs ls d) : W p l e room_1 (s.setDrawn d) m #[Value.ref b9] below meth c H locs 35 3953 (lw_Z below #[Value.ref b9] s) (F0 m 28 ls []) := by
  refine xk_loopC (fun i H locs ls d => LInv s D cI cZ cD cJ a b b9 o9 o8 i H locs ls d ∧ 4 * i ≤ L) (fun i => 35 + i) (fun i => 3953 + 6 * i) (L / 4) ?_ (i := 0) (Nat.zero_le _) ⟨hI, Nat.zero_le _⟩
  intro i H locs ls d hi hI next
  obtain ⟨hI, h4⟩ := hI
  have hC := C
  obtain ⟨hst, hL, C0, hE, hN, hK⟩ := hC
  obtain ⟨hx, hb, hr, hml, hown, hts0, hX, hbl, hlocks, hgv⟩ := C0
  have hI1 := hI
  obtain ⟨_, _, _, _, _, _, _, _, _, _, _, _, _, _, _, _, _, _, _, _, _, _, _, _, _, _, _, _, _, _, _, _, _, _, _, hLI, hP, hD, hS, hdl, hl⟩ := hI1
  have hbA : ¬ (fun q : Nat => s.heap.size ≤ q) b9 := Nat.not_le.mpr hbl
  show W p l e room_1 (s.setDrawn d) m #[Value.ref b9] below meth c H locs (35 + i) (3953 + 6 * i) (lw_Z below #[Value.ref b9] s) (F0 m 28 ls [])
  refine lv_iload hx hb dL_law_28 (lv_at hl 5 rfl) ?_
  refine lv_aload_n hx hb dL_law_30 rfl (lv_at hl 0 rfl) ?_
  refine va_slen hx hb (X_drawn hX) hbl hbA hS dL_law_31 ?_
  refine lv_iconst (v := nI 4) hx hb dL_law_32 (by decide) ?_
  refine lv_isub hx hb dL_law_33 ?_
  refine lv_icmp_gt (tgt := 1238) hx hb dL_law_34 (by decide) (fun c => ?_) (fun c => ?_)
  · refine lv_iconst (v := 1) hx hb dL_law_1238 (by decide) ?_
    refine W.widen (k := 1065) (n := 12181) (by omega) (by omega) ?_
    refine va_forget (fun q hq => hS.2.2 q hq) ?_
    exact lw_ret hdl hx hb hr hlocks dL_law_1239
  · have hlt : 4 * i + 4 ≤ L := Decidable.of_not_not (fun z => c ((law_gt hL h4).mpr z))
    have nx : ∀ (H' : Heap) (locs' : List Loc) (ls' : Array Slot) (d' : Drawn), LInv s D cI cZ cD cJ a b b9 o9 o8 (i + 1) H' locs' ls' d' → W p l e room_1 (s.setDrawn d') m #[Value.ref b9] below meth _ H' locs' (35 + (i + 1)) (3953 + 6 * (i + 1)) (lw_Z below #[Value.ref b9] s) (F0 m 28 ls' []) := fun H' locs' ls' d' h9 => next H' locs' ls' d' (by omega) ⟨h9, by omega⟩
    refine lv_aload_n hx hb dL_law_37 rfl (lv_at hl 0 rfl) ?_
    refine lv_iload hx hb dL_law_38 (lv_at hl 5 rfl) ?_
    refine va_sld hx hb (X_drawn hX) hbl hbA hS (i := nI (4 * i)) (vp_in_nI (by omega) (by omega)) dL_law_40 ?_
    refine lv_bipush (v := nI 15) hx hb dL_law_41 (by decide) ?_
    refine lv_iand hx hb dL_law_43 ?_
    obtain ⟨j, hj, he⟩ := pk_andE (xs (nI (4 * i)).toNatClampNeg) (m := nI 15) 4 (by decide)
    refine xk_i he ?_
    rcases (show j = 0 ∨ j = 1 ∨ j = 2 ∨ j = 3 ∨ j = 4 ∨ j = 5 ∨ j = 6 ∨ j = 7 ∨ j = 8 ∨ j = 9 ∨ j = 10 ∨ j = 11 ∨ j = 12 ∨ j = 13 ∨ j = 14 ∨ j = 15 by omega) with rfl | rfl | rfl | rfl | rfl | rfl | rfl | rfl | rfl | rfl | rfl | rfl | rfl | rfl | rfl | rfl
    · exact lv_tableIn (off := 80) (tgt := 124) hx hb dL_law_44 (by decide) (by decide) (by decide) (by decide) (ls_0 C hlt hI nx)
    · exact lv_tableIn (off := 148) (tgt := 192) hx hb dL_law_44 (by decide) (by decide) (by decide) (by decide) (ls_1 C hlt hI nx)
    · exact lv_tableIn (off := 239) (tgt := 283) hx hb dL_law_44 (by decide) (by decide) (by decide) (by decide) (ls_2 C hlt hI nx)
    · exact lv_tableIn (off := 316) (tgt := 360) hx hb dL_law_44 (by decide) (by decide) (by decide) (by decide) (ls_3 C hlt hI nx)
    · exact lv_tableIn (off := 391) (tgt := 435) hx hb dL_law_44 (by decide) (by decide) (by decide) (by decide) (ls_4 C hlt hI nx)
    · exact lv_tableIn (off := 454) (tgt := 498) hx hb dL_law_44 (by decide) (by decide) (by decide) (by decide) (ls_5 C hlt hI nx)
    · exact lv_tableIn (off := 467) (tgt := 511) hx hb dL_law_44 (by decide) (by decide) (by decide) (by decide) (ls_6 C hlt hI nx)
    · exact lv_tableIn (off := 568) (tgt := 612) hx hb dL_law_44 (by decide) (by decide) (by decide) (by decide) (ls_7 C hlt hI nx)
    · exact lv_tableIn (off := 657) (tgt := 701) hx hb dL_law_44 (by decide) (by decide) (by decide) (by decide) (ls_8 C hlt hI nx)
    · exact lv_tableIn (off := 746) (tgt := 790) hx hb dL_law_44 (by decide) (by decide) (by decide) (by decide) (ls_9 C hlt hI nx)
    · exact lv_tableIn (off := 835) (tgt := 879) hx hb dL_law_44 (by decide) (by decide) (by decide) (by decide) (ls_10 C hlt hI nx)
    · exact lv_tableIn (off := 924) (tgt := 968) hx hb dL_law_44 (by decide) (by decide) (by decide) (by decide) (ls_11 C hlt hI nx)
    · exact lv_tableIn (off := 1001) (tgt := 1045) hx hb dL_law_44 (by decide) (by decide) (by decide) (by decide) (ls_12 C hlt hI nx)
    · exact lv_tableIn (off := 1042) (tgt := 1086) hx hb dL_law_44 (by decide) (by decide) (by decide) (by decide) (ls_13 C hlt hI nx)
    · exact lv_tableIn (off := 1055) (tgt := 1099) hx hb dL_law_44 (by decide) (by decide) (by decide) (by decide) (ls_14 C hlt hI nx)
    · exact lv_tableIn (off := 1111) (tgt := 1155) hx hb dL_law_44 (by decide) (by decide) (by decide) (by decide) (ls_15 C hlt hI nx)
set_option maxHeartbeats 4000000 in
set_option maxRecDepth 100000 in
theorem whole_start {p : Program} {e : Env} {s : State} {m : MethodId} {below : List Frame} {meth : Method} {c : Code} (l : Launch) (hflags : l.flags = flags0) {b L : Nat} {xs : Nat → Int32} (hL : L ≤ 2048) (C0 : lw_At p s m meth c b L xs) : W p l e room_1 s m #[Value.ref b] below meth c s.heap [] 0 0 (lw_Z below #[Value.ref b] s) (entryFrame m ([Value.ref b] : List Value).toArray 10) := by
  obtain ⟨hx, hb, hr, hml, hown, hts0, hX, hbl, hlocks, hgv⟩ := id C0
  have hst : l.stackTraces = false := by show (!l.flags.contains noTraceFlag) = false; rw [hflags]; decide +kernel
  have hts : ∀ w ∈ wsL_law, w.before #[Value.ref b] s = true := fun w h => hts0 w (wsL_law_in w h)
  have hs := flat_of_before _ hgv
  have hA : ∀ q : Nat, s.heap.size ≤ q → (fun q : Nat => s.heap.size ≤ q) q := fun _ h => h
  have hA2 : ∀ a : Nat, a < s.heap.size → ¬ (fun q : Nat => s.heap.size ≤ q) a := fun _ h => Nat.not_le.mpr h
  obtain ⟨c0, iS0, hKn0⟩ := u_known (C := RX0) (T := TX0) (N := 9) (n := 9) hts0 inX0 (hts0 (.instantiable RX0 9) (by decide +kernel))
  obtain ⟨c1, iS1, hKn1⟩ := u_known (C := RX1) (T := TX1) (N := 12) (n := 12) hts0 inX1 (hts0 (.instantiable RX1 12) (by decide +kernel))
  obtain ⟨c2, iS2, hKn2⟩ := u_known (C := RX2) (T := TX2) (N := 20) (n := 20) hts0 inX2 (hts0 (.instantiable RX2 20) (by decide +kernel))
  obtain ⟨dC, dI, hKc⟩ : ∃ (dC : Nat → ClassId) (dI : Nat → Nat → Nat), ∀ (k : Nat) (q : vw_C), vwCl[k]? = some q → u_Kn s q.1 q.2.1 q.2.2 (dC k) (dI k) := by
    refine ⟨fun k => if k = 0 then c0 else if k = 1 then c1 else c2, fun k => if k = 0 then iS0 else if k = 1 then iS1 else iS2, ?_⟩
    intro k q hq
    match k, hq with
    | 0, hq => cases hq; exact hKn0
    | 1, hq => cases hq; exact hKn1
    | 2, hq => cases hq; exact hKn2
    | k + 3, hq => simp [vwCl] at hq
  have hK0 : va_K (dC, dI) vwCl [] s := ⟨hKc, fun k q h => by simp at h⟩
  obtain ⟨cI, hK1⟩ := xk_arr (ty := .int) hK0 (hts0 (.arrayClass .int) (by decide +kernel)) (fun _ _ h => h)
  obtain ⟨cZ, hK2⟩ := xk_arr (ty := .boolean) hK1 (hts0 (.arrayClass .boolean) (by decide +kernel)) (fun _ _ h => h)
  obtain ⟨cD, hK3⟩ := xk_arr (ty := .double) hK2 (hts0 (.arrayClass .double) (by decide +kernel)) (fun _ _ h => h)
  obtain ⟨cJ, hK4⟩ := xk_arr (ty := .long) hK3 (hts0 (.arrayClass .long) (by decide +kernel)) (fun _ _ h => h)
  have hK : va_K (dC, dI) vwCl (T4 cI cZ cD cJ) s := hK4
  have hKt : va_K (dC, dI) vwCl (T3 cI cZ cD) s := hK3
  have hN : EN s := ⟨va_Nc.of (hs (.not (.castable "java/lang/IndexOutOfBoundsException" "java/lang/IllegalArgumentException")) (by decide +kernel)), va_Nc.of (hs (.not (.castable "java/lang/IllegalStateException" "java/lang/IllegalArgumentException")) (by decide +kernel)), va_Nc.of (hs (.not (.castable "java/lang/IllegalStateException" "java/lang/IndexOutOfBoundsException")) (by decide +kernel))⟩
  have hexw : ∀ w ∈ exW, w ∈ lw_tbl := by decide +kernel
  have hstr : ∀ q ∈ exS, (Cond.stringRef RX1 q.1 q.2) ∈ lw_tbl := by decide +kernel
  have hexa : ∀ q ∈ exS, (Cond.exactly (.string RX1 q.1) "java/lang/String") ∈ flatC (Jvm.Cond.and given_1 narrow_1) := by decide +kernel
  have hE : EX (fun q : Nat => s.heap.size ≤ q) s s.heap := by
    refine ⟨vx_Zqof (hts0 (.laysStatic Bundle.tN "UNASSIGNED_STACK" Bundle.steD) (by decide +kernel)) (hts0 (.initialized Bundle.tN) (by decide +kernel)) (hs (.isRef (.static Bundle.tN "UNASSIGNED_STACK" Bundle.steD)) (by decide +kernel)) hA2, vx_Zqof (hts0 (.laysStatic Bundle.tN "SUPPRESSED_SENTINEL" Bundle.listD) (by decide +kernel)) (hts0 (.initialized Bundle.tN) (by decide +kernel)) (hs (.isRef (.static Bundle.tN "SUPPRESSED_SENTINEL" Bundle.listD)) (by decide +kernel)) hA2, fun w hw => va_any (exW_face w hw).2 (hts0 w (hexw w hw)), fun q hq => ?_⟩
    obtain ⟨sa, -, -, -, q1, -⟩ := Cond.exactly_spec (args := #[Value.ref b]) (first := s) (o := none) (s := s) (idx := []) (t := .string RX1 q.1) (cls := "java/lang/String") (hs _ (hexa q hq))
    exact ⟨sa, vk_R.of (A := #[Value.ref b]) (hts0 _ (hstr q hq)) q1⟩
  have hS : va_S (fun q : Nat => s.heap.size ≤ q) s.heap s.heap [] := va_S.rf
  have hP : va_P (dC, dI) vwCl [] s.heap := fun k q h => by simp at h
  have hD : va_D (fun q : Nat => s.heap.size ≤ q) [] := ⟨fun i j p q h => by simp at h, fun k q h => by simp at h⟩
  have hl := lv_entry ([.ref b]) (n := 10) (Nat.le_of_ble_eq_true rfl)
  rw [lg_entry_eq]
  generalize (lg_sl ([.ref b]) ++ List.replicate (10 - (lg_sl ([.ref b])).length) Slot.unset).toArray = ls at hl ⊢
  have hl : lv_has ls 10 [(0, .ref b)] := hl
  refine va_new (ci := 1) (fs := [.null, .null, .null, .null, .null, .null, .null, .double 0, .double 0, .int 0, .null, .double 0]) (C := RX1) (T := TX1) (N := 12) hx hb hts inlX1 tyX1 tyX1_ok hown (hts (.classLink RL 8 RX1) (by decide +kernel)) (hts (.instantiable RX1 12) (by decide +kernel)) (hts (.initialized RX1) (by decide +kernel)) hK hP hD hS hA rfl (fun j hj => by rcases (show j = 0 ∨ j = 1 ∨ j = 2 ∨ j = 3 ∨ j = 4 ∨ j = 5 ∨ j = 6 ∨ j = 7 ∨ j = 8 ∨ j = 9 ∨ j = 10 ∨ j = 11 by omega) with rfl | rfl | rfl | rfl | rfl | rfl | rfl | rfl | rfl | rfl | rfl | rfl <;> rfl) (Nat.le_of_ble_eq_true rfl) (Nat.le_of_ble_eq_true rfl) dL_law_0 (fun qx H hP hD hS => ?_)
  have hP : va_P (dC, dI) vwCl ([(qx, .inr (1, [.null, .null, .null, .null, .null, .null, .null, .double 0, .double 0, .int 0, .null, .double 0]))]) H := hP
  have hD : va_D (fun q : Nat => s.heap.size ≤ q) ([(qx, .inr (1, [.null, .null, .null, .null, .null, .null, .null, .double 0, .double 0, .int 0, .null, .double 0]))]) := hD
  refine lv_dup hx hb dL_law_3 rfl ?_
  have hFc := va_free (wc := [(qx, .inr (1, [.null, .null, .null, .null, .null, .null, .null, .double 0, .double 0, .int 0, .null, .double 0]))]) hD hS hA [0] rfl
  have hNw := va_Nw.of (w := .methodLinkNest RX1 32 yX0_init "GridCommons") rfl (hts0 (.methodLinkNest RX1 32 yX0_init "GridCommons") (by decide +kernel))
  refine va_callv (va_runI (As := []) (rest := [.ref qx]) ⟨hx, hb, hml, hown, hts⟩ (mX1_init l (dC, dI) cI cZ cD qx H.size) (cwI 0 hts gL_law_X1_init rfl rfl rfl (hts (.initialized RX1) (by decide +kernel)) (hts (.methodLink RL 62 yX1_init) (by decide +kernel)) (hts (.instanceMethod yX1_init) (by decide +kernel)) rfl (by decide +kernel) ⟨Nat.le_of_ble_eq_true rfl, Nat.le_of_ble_eq_true rfl⟩) ⟨fun a U g mk q => by obtain ⟨q0, q1, ⟨qP, qK, qD⟩, qN⟩ := q; exact ⟨q0, q1, ⟨qP, va_K.moved (u := U) (U := U.calling g mk a) (Vm.Alike.refl U.vm) qK, qD⟩, va_Nw.same rfl rfl qN⟩, fun U hU hW => ⟨rfl, by rw [hU], ⟨by rw [hU]; exact hP, va_K.moved hW.alike hKt, hD.weaken (fun _ _ _ _ => trivial)⟩, va_Nw.warmM hW hNw⟩⟩ rfl rfl hl.1 rfl (lv_room (Nat.le_of_ble_eq_true rfl)) dL_law_4 ⟨Nat.le_of_ble_eq_true rfl, Nat.le_of_ble_eq_true rfl⟩) hS (fun q _ h => hFc q h) hFc (fun u t H1 locs ht hvm hw hB hz1 hk1 hS => ?_)
  obtain ⟨hP1, -, hD1⟩ := hB
  rw [ht] at hP1
  obtain ⟨hP, hD⟩ := va_join (wr := []) (w1 := XW u cI cZ cD (fun _ => 0) (po 0 5 (fun _ => 0) (fun _ => 1)) (fun _ => 0) (fun _ => 0) (fun _ => 0) (fun _ => 0) (fun _ => 0) 4602678819172646912 FP.dconst0 FP.dconst0 (nI 0) (nI 0) (fun _ => 0) (fun _ => 0) (fun _ => 0) (fun _ => 0) (fun _ => 0) (fun _ => 0) (fun _ => 0) (fun _ => 0)) hP hD [0] [] rfl rfl (by decide) (by decide) hk1 hFc hP1 hD1
  clear hP1 hD1 hz1 hk1 hFc
  generalize H1 = H at hP hS ⊢
  have hP : va_P (dC, dI) vwCl (XW u cI cZ cD (fun _ => 0) (po 0 5 (fun _ => 0) (fun _ => 1)) (fun _ => 0) (fun _ => 0) (fun _ => 0) (fun _ => 0) (fun _ => 0) 4602678819172646912 FP.dconst0 FP.dconst0 (nI 0) (nI 0) (fun _ => 0) (fun _ => 0) (fun _ => 0) (fun _ => 0) (fun _ => 0) (fun _ => 0) (fun _ => 0) (fun _ => 0)) H := hP
  have hD : va_D (fun q : Nat => s.heap.size ≤ q) (XW u cI cZ cD (fun _ => 0) (po 0 5 (fun _ => 0) (fun _ => 1)) (fun _ => 0) (fun _ => 0) (fun _ => 0) (fun _ => 0) (fun _ => 0) 4602678819172646912 FP.dconst0 FP.dconst0 (nI 0) (nI 0) (fun _ => 0) (fun _ => 0) (fun _ => 0) (fun _ => 0) (fun _ => 0) (fun _ => 0) (fun _ => 0) (fun _ => 0)) := hD
  rw [← hw]
  refine lv_astore_n (lv' := [(1, .ref (u 0)), (0, .ref b)]) hx hb dL_law_7 rfl hl (by decide) rfl (fun ls hl => ?_)
  refine va_new (ci := 2) (fs := [.int 0, .null, .null, .null, .null, .double 0, .double 0, .int 0, .int 0, .null, .null, .null, .null, .null, .null, .null, .null, .null, .null, .null]) (C := RX2) (T := TX2) (N := 20) hx hb hts inlX2 tyX2 tyX2_ok hown (hts (.classLink RL 63 RX2) (by decide +kernel)) (hts (.instantiable RX2 20) (by decide +kernel)) (hts (.initialized RX2) (by decide +kernel)) hK hP hD hS hA rfl (fun j hj => by rcases (show j = 0 ∨ j = 1 ∨ j = 2 ∨ j = 3 ∨ j = 4 ∨ j = 5 ∨ j = 6 ∨ j = 7 ∨ j = 8 ∨ j = 9 ∨ j = 10 ∨ j = 11 ∨ j = 12 ∨ j = 13 ∨ j = 14 ∨ j = 15 ∨ j = 16 ∨ j = 17 ∨ j = 18 ∨ j = 19 by omega) with rfl | rfl | rfl | rfl | rfl | rfl | rfl | rfl | rfl | rfl | rfl | rfl | rfl | rfl | rfl | rfl | rfl | rfl | rfl | rfl <;> rfl) (Nat.le_of_ble_eq_true rfl) (Nat.le_of_ble_eq_true rfl) dL_law_8 (fun qm H hP hD hS => ?_)
  refine lv_dup hx hb dL_law_11 rfl ?_
  have hPc : va_P (dC, dI) vwCl [(qm, .inr (2, [.int 0, .null, .null, .null, .null, .double 0, .double 0, .int 0, .int 0, .null, .null, .null, .null, .null, .null, .null, .null, .null, .null, .null]))] H := hP.sub [17] rfl
  have hDc : va_D (fun q : Nat => s.heap.size ≤ q) [(qm, .inr (2, [.int 0, .null, .null, .null, .null, .double 0, .double 0, .int 0, .int 0, .null, .null, .null, .null, .null, .null, .null, .null, .null, .null, .null]))] := hD.sub [17] (by decide) rfl
  have hFc := va_free (wc := [(qm, .inr (2, [.int 0, .null, .null, .null, .null, .double 0, .double 0, .int 0, .int 0, .null, .null, .null, .null, .null, .null, .null, .null, .null, .null, .null]))]) hD hS hA [17] rfl
  refine va_callv (va_runI (As := []) (rest := [.ref qm]) ⟨hx, hb, hml, hown, hts⟩ (mX2_init l (dC, dI) cI cZ cD qm H.size) (cwI 0 hts gL_law_X2_init rfl rfl rfl (hts (.initialized RX2) (by decide +kernel)) (hts (.methodLink RL 65 yX2_init) (by decide +kernel)) (hts (.instanceMethod yX2_init) (by decide +kernel)) rfl (by decide +kernel) ⟨Nat.le_of_ble_eq_true rfl, Nat.le_of_ble_eq_true rfl⟩) ⟨xk_blind, xk_pre hPc hKt hDc⟩ rfl rfl hl.1 rfl (lv_room (Nat.le_of_ble_eq_true rfl)) dL_law_12 ⟨Nat.le_of_ble_eq_true rfl, Nat.le_of_ble_eq_true rfl⟩) hS (fun q _ h => hFc q h) hFc (fun u2 t H1 locs ht hvm hw hB hz1 hk1 hS => ?_)
  obtain ⟨hP1, -, hD1⟩ := hB
  rw [ht] at hP1
  obtain ⟨hP, hD⟩ := va_join (wr := XW u cI cZ cD (fun _ => 0) (po 0 5 (fun _ => 0) (fun _ => 1)) (fun _ => 0) (fun _ => 0) (fun _ => 0) (fun _ => 0) (fun _ => 0) 4602678819172646912 FP.dconst0 FP.dconst0 (nI 0) (nI 0) (fun _ => 0) (fun _ => 0) (fun _ => 0) (fun _ => 0) (fun _ => 0) (fun _ => 0) (fun _ => 0) (fun _ => 0)) (w1 := MW u2 cI cZ cD 0 (fun _ => 0) (fun _ => 0) (fun _ => 0) (fun _ => 0) 4602678819172646912 0 0 0 (fun _ => 0) (fun _ => 0) (fun _ => 0) (fun _ => 0) (fun _ => 0) (fun _ => 0) (fun _ => 0) (fun _ => 0) (fun _ => 0) (fun _ => 0) (fun _ => 0)) hP hD [17] [0, 1, 2, 3, 4, 5, 6, 7, 8, 9, 10, 11, 12, 13, 14, 15, 16] rfl rfl (by decide) (by decide) hk1 hFc hP1 hD1
  clear hPc hDc hP1 hD1 hz1 hk1 hFc
  generalize H1 = H at hP hS ⊢
  have hP : va_P (dC, dI) vwCl (XW u cI cZ cD (fun _ => 0) (po 0 5 (fun _ => 0) (fun _ => 1)) (fun _ => 0) (fun _ => 0) (fun _ => 0) (fun _ => 0) (fun _ => 0) 4602678819172646912 FP.dconst0 FP.dconst0 (nI 0) (nI 0) (fun _ => 0) (fun _ => 0) (fun _ => 0) (fun _ => 0) (fun _ => 0) (fun _ => 0) (fun _ => 0) (fun _ => 0) ++ MW u2 cI cZ cD 0 (fun _ => 0) (fun _ => 0) (fun _ => 0) (fun _ => 0) 4602678819172646912 0 0 0 (fun _ => 0) (fun _ => 0) (fun _ => 0) (fun _ => 0) (fun _ => 0) (fun _ => 0) (fun _ => 0) (fun _ => 0) (fun _ => 0) (fun _ => 0) (fun _ => 0)) H := hP
  have hD : va_D (fun q : Nat => s.heap.size ≤ q) (XW u cI cZ cD (fun _ => 0) (po 0 5 (fun _ => 0) (fun _ => 1)) (fun _ => 0) (fun _ => 0) (fun _ => 0) (fun _ => 0) (fun _ => 0) 4602678819172646912 FP.dconst0 FP.dconst0 (nI 0) (nI 0) (fun _ => 0) (fun _ => 0) (fun _ => 0) (fun _ => 0) (fun _ => 0) (fun _ => 0) (fun _ => 0) (fun _ => 0) ++ MW u2 cI cZ cD 0 (fun _ => 0) (fun _ => 0) (fun _ => 0) (fun _ => 0) 4602678819172646912 0 0 0 (fun _ => 0) (fun _ => 0) (fun _ => 0) (fun _ => 0) (fun _ => 0) (fun _ => 0) (fun _ => 0) (fun _ => 0) (fun _ => 0) (fun _ => 0) (fun _ => 0)) := hD
  rw [← hw]
  refine lv_astore_n (lv' := [(2, .ref (u2 0)), (1, .ref (u 0)), (0, .ref b)]) hx hb dL_law_15 rfl hl (by decide) rfl (fun ls hl => ?_)
  refine lv_iconst (v := nI 1) hx hb dL_law_16 (by decide) ?_
  refine xk_newa (atype := .long) (ty := .long) (N' := 1) (a0 := (1, .inr (.inl (fun _ => 0)))) hx hb (hts (.arrayClass .long) (by decide +kernel)) rfl hK hP hD hS hA 3 rfl (fun _ _ h9 => h9) (fun _ => rfl) (by decide +kernel) (by decide +kernel) (Nat.le_of_ble_eq_true rfl) (Nat.le_of_ble_eq_true rfl) (Nat.le_of_ble_eq_true rfl) dL_law_17 (fun o9 H hP hD hS => ?_)
  refine lv_astore_n (lv' := [(3, .ref o9), (2, .ref (u2 0)), (1, .ref (u 0)), (0, .ref b)]) hx hb dL_law_19 rfl hl (by decide) rfl (fun ls hl => ?_)
  refine lv_iconst (v := nI 1) hx hb dL_law_20 (by decide) ?_
  refine xk_newa (atype := .double) (ty := .double) (N' := 1) (a0 := (1, .inr (.inr (.inr (.inl (fun _ => 0)))))) hx hb (hts (.arrayClass .double) (by decide +kernel)) rfl hK hP hD hS hA 2 rfl (fun _ _ h9 => h9) (fun _ => rfl) (by decide +kernel) (by decide +kernel) (Nat.le_of_ble_eq_true rfl) (Nat.le_of_ble_eq_true rfl) (Nat.le_of_ble_eq_true rfl) dL_law_21 (fun o8 H hP hD hS => ?_)
  refine lv_astore (lv' := [(4, .ref o8), (3, .ref o9), (2, .ref (u2 0)), (1, .ref (u 0)), (0, .ref b)]) hx hb dL_law_23 hl (by decide) rfl (fun ls hl => ?_)
  refine lv_iconst (v := nI 0) hx hb dL_law_25 (by decide) ?_
  refine lv_istore (lv' := [(5, .int (nI 0)), (4, .ref o8), (3, .ref o9), (2, .ref (u2 0)), (1, .ref (u 0)), (0, .ref b)]) hx hb dL_law_26 hl (by decide) rfl (fun ls hl => ?_)
  have hP : va_P (dC, dI) vwCl (WL o9 o8 cJ u u2 cI cZ cD (fun _ => 0) (po 0 5 (fun _ => 0) (fun _ => 1)) (fun _ => 0) (fun _ => 0) (fun _ => 0) (fun _ => 0) (fun _ => 0) 4602678819172646912 FP.dconst0 FP.dconst0 (nI 0) (nI 0) (fun _ => 0) (fun _ => 0) (fun _ => 0) (fun _ => 0) (fun _ => 0) (fun _ => 0) (fun _ => 0) (fun _ => 0) 0 (fun _ => 0) (fun _ => 0) (fun _ => 0) (fun _ => 0) 4602678819172646912 0 (nI 0) (nI 0) (fun _ => 0) (fun _ => 0) (fun _ => 0) (fun _ => 0) (fun _ => 0) (fun _ => 0) (fun _ => 0) (fun _ => 0) (fun _ => 0) (fun _ => 0) (fun _ => 0) (fun _ => 0) (fun _ => 0)) H := hP
  have hD : va_D (fun q : Nat => s.heap.size ≤ q) (WL o9 o8 cJ u u2 cI cZ cD (fun _ => 0) (po 0 5 (fun _ => 0) (fun _ => 1)) (fun _ => 0) (fun _ => 0) (fun _ => 0) (fun _ => 0) (fun _ => 0) 4602678819172646912 FP.dconst0 FP.dconst0 (nI 0) (nI 0) (fun _ => 0) (fun _ => 0) (fun _ => 0) (fun _ => 0) (fun _ => 0) (fun _ => 0) (fun _ => 0) (fun _ => 0) 0 (fun _ => 0) (fun _ => 0) (fun _ => 0) (fun _ => 0) 4602678819172646912 0 (nI 0) (nI 0) (fun _ => 0) (fun _ => 0) (fun _ => 0) (fun _ => 0) (fun _ => 0) (fun _ => 0) (fun _ => 0) (fun _ => 0) (fun _ => 0) (fun _ => 0) (fun _ => 0) (fun _ => 0) (fun _ => 0)) := hD
  refine W.base ?_
  refine W.widen (k := 35) (n := 3953) (Nat.le_of_ble_eq_true rfl) (Nat.le_of_ble_eq_true rfl) ?_
  refine law_loop (a := u) (b := u2) (o9 := o9) (o8 := o8) ⟨hst, hL, C0, hE, hN, hK⟩ ⟨0, 0, (fun _ => 0), (po 0 5 (fun _ => 0) (fun _ => 1)), (fun _ => 0), (fun _ => 0), (fun _ => 0), (fun _ => 0), (fun _ => 0), 4602678819172646912, FP.dconst0, FP.dconst0, (fun _ => 0), (fun _ => 0), (fun _ => 0), (fun _ => 0), (fun _ => 0), (fun _ => 0), (fun _ => 0), (fun _ => 0), 0, (fun _ => 0), (fun _ => 0), 4602678819172646912, 0, (fun _ => 0), (fun _ => 0), (fun _ => 0), (fun _ => 0), (fun _ => 0), (fun _ => 0), (fun _ => 0), (fun _ => 0), (fun _ => 0), (fun _ => 0), ⟨by decide, by decide, ?_, ?_, fun j => Or.inl rfl, rfl, rfl, rfl, rfl, rfl, fun j => nz.rf _, fun j _ => rfl, rfl, rfl, rfl, rfl⟩, hP, hD, hS, Drawn.sameBut.refl s.drawn lw_cs, lv_sub hl [5, 4, 3, 2, 1, 0] rfl⟩
  · intro k hk
    rcases (show k = 0 ∨ k = 1 ∨ k = 2 ∨ k = 3 ∨ k = 4 by omega) with rfl | rfl | rfl | rfl | rfl <;> decide
  · intro j
    unfold po
    by_cases h : 0 ≤ j ∧ j < 0 + 5
    · rw [if_pos h]; exact Or.inr rfl
    · rw [if_neg h]; exact Or.inl rfl
