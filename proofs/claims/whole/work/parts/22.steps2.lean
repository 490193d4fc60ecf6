/-! THE LAW, case by case: the rest -/
set_option maxHeartbeats 4000000 in
set_option maxRecDepth 100000 in
theorem ls_1 {p : Program} {l : Launch} {e : Env} {s : State} {m : MethodId} {below : List Frame} {meth : Method} {c : Code} {b9 L : Nat} {xs : Nat → Int32} {D : va_G} {cI cZ cD cJ : ClassId} (C : LC l p s m meth c b9 L xs D cI cZ cD cJ) {a b : Nat → Nat} {o9 o8 i : Nat} (hi4 : 4 * i + 4 ≤ L) {H : Heap} {locs : List Loc} {ls : Array Slot} {d : Drawn} (hI : LInv s D cI cZ cD cJ a b b9 o9 o8 i H locs ls d) (next : ∀ (H' : Heap) (locs' : List Loc) (ls' : Array Slot) (d' : Drawn), LInv s D cI cZ cD cJ a b b9 o9 o8 (i + 1) H' locs' ls' d' → W p l e room_1 (s.setDrawn d') m #[Value.ref b9] below meth c H' locs' (35 + (i + 1)) (3953 + 6 * (i + 1)) (lw_Z below #[Value.ref b9] s) (F0 m 28 ls' [])) : W p l e room_1 (s.setDrawn d) m #[Value.ref b9] below meth c H locs (35 + i) (3953 + 6 * i) (lw_Z below #[Value.ref b9] s) (F0 m 192 ls []) := by
  obtain ⟨hst, hL, C0, hE, hN, hK⟩ := C
  obtain ⟨hx, hb, hr, hml, hown, hts0, hX, hbl, hlocks, hgv⟩ := C0
  have hts : ∀ w ∈ wsL_law, w.before #[Value.ref b9] s = true := fun w h => hts0 w (wsL_law_in w h)
  obtain ⟨n, t, sh, sw, ts, bi, it, tu, ne, pr, so, lo, lp, lz, lu, lk, ld, lf, lb, lw, mth, mst, mbi, mpr, mba, mus, mud, mfs, mfb, mbo, mso, mpc, mne, fo, fd, ⟨hn, ht5, hsm, hsw, hit, hbi, hpr, hso, hlu, hld, hlf, hlz9, hlb, hlw, hlz, hlp⟩, hP, hD, hS, hdl, hl⟩ := hI
  have hA : ∀ q : Nat, s.heap.size ≤ q → (fun q => s.heap.size ≤ q) q := fun q h => h
  have hbA : ¬ (fun q => s.heap.size ≤ q) b9 := Nat.not_le.mpr hbl
  obtain ⟨x1, hx1⟩ : ∃ x, x = xs (nI (4 * i + 1)).toNatClampNeg := ⟨_, rfl⟩
  obtain ⟨x2, hx2⟩ : ∃ x, x = xs (nI (4 * i + 2)).toNatClampNeg := ⟨_, rfl⟩
  obtain ⟨can, hcan, hz⟩ : ∃ can : Int32, (can = 0 ∨ can = 1) ∧ ((x2 = 0 ∧ can = nI 0) ∨ (¬ x2 = 0 ∧ can = nI 1)) := by
    by_cases h : x2 = 0
    · exact ⟨0, Or.inl rfl, Or.inl ⟨h, by decide⟩⟩
    · exact ⟨1, Or.inr rfl, Or.inr ⟨h, by decide⟩⟩
  by_cases hg : inR x1 0 4
  · skip
    have g1 := hg
    obtain ⟨o, ho4, rfl⟩ := inR_nI (n := 4) (by decide) g1
    have ho : o < 5 := by omega
    rcases hz with ⟨hz, hcz⟩ | ⟨hz, hcz⟩
    · skip
      refine lv_aload_n hx hb dL_law_192 rfl (lv_at hl 1 rfl) ?_
      refine lv_aload_n hx hb dL_law_193 rfl (lv_at hl 0 rfl) ?_
      refine lv_iload hx hb dL_law_194 (lv_at hl 5 rfl) ?_
      refine lv_iconst (v := nI 1) hx hb dL_law_196 (by decide) ?_
      refine lv_iadd hx hb dL_law_197 ?_
      refine xk_i (y := nI (4 * i + 1)) (nI_add _ _) ?_
      refine va_sld hx hb (X_drawn hX) hbl hbA hS (i := nI (4 * i + 1)) (vp_in_nI (by omega) (by omega)) dL_law_198 ?_
      refine xk_i (y := nI o) hx1.symm ?_
      refine lv_aload_n hx hb dL_law_199 rfl (lv_at hl 0 rfl) ?_
      refine lv_iload hx hb dL_law_200 (lv_at hl 5 rfl) ?_
      refine lv_iconst (v := nI 2) hx hb dL_law_202 (by decide) ?_
      refine lv_iadd hx hb dL_law_203 ?_
      refine xk_i (y := nI (4 * i + 2)) (nI_add _ _) ?_
      refine va_sld hx hb (X_drawn hX) hbl hbA hS (i := nI (4 * i + 2)) (vp_in_nI (by omega) (by omega)) dL_law_204 ?_
      refine xk_i (y := x2) hx2.symm ?_
      refine lv_if_eq (tgt := 212) hx hb dL_law_205 (by decide) (fun c => ?_) (fun c => absurd hz c)
      refine lv_iconst (v := nI 0) hx hb dL_law_212 (by decide) ?_
      refine xk_i (y := can) hcz.symm ?_
      refine lv_aload_n hx hb dL_law_213 rfl (lv_at hl 3 rfl) ?_
      have hPc : va_P D vwCl (XWJ o9 cJ a cI cZ cD sh sw ts bi it tu ne pr so lo (nI t) (nI n) lp lz lu lk ld lf lb lw fo) H := hP.sub [0, 1, 2, 3, 4, 5, 6, 7, 8, 9, 10, 11, 12, 13, 14, 15, 16, 33] rfl
      have hDc : va_D (fun q => s.heap.size ≤ q) (XWJ o9 cJ a cI cZ cD sh sw ts bi it tu ne pr so lo (nI t) (nI n) lp lz lu lk ld lf lb lw fo) := hD.sub [0, 1, 2, 3, 4, 5, 6, 7, 8, 9, 10, 11, 12, 13, 14, 15, 16, 33] (by decide) rfl
      have hFc := va_free (wc := XWJ o9 cJ a cI cZ cD sh sw ts bi it tu ne pr so lo (nI t) (nI n) lp lz lu lk ld lf lb lw fo) hD hS hA [0, 1, 2, 3, 4, 5, 6, 7, 8, 9, 10, 11, 12, 13, 14, 15, 16, 33] rfl
      refine va_calli (vx_runSW (As := [.ref (a 0), .int (nI o), .int can, .ref o9]) (rest := []) ⟨hx, hb, hml, xk_od hown, dr_words hts _⟩ (mL_setSwitchV l D cI cZ cD cJ a o9 _ sh sw ts bi it tu ne pr so lo (nI t) (nI n) lp lz lu lk ld lf lb lw fo o can ho hcan hsw) (vx_cwSW 4 (dr_words hts _) gL_law_L_setSwitch rfl rfl rfl (by decide +kernel) ⟨Nat.le_of_ble_eq_true rfl, Nat.le_of_ble_eq_true rfl⟩) ⟨yk_blind, yk_pre hPc (yk_Kd hK) hDc⟩ rfl rfl hl.1 rfl (lv_room (Nat.le_of_ble_eq_true rfl)) dL_law_214 ⟨(by show _ ≤ 1065; omega), (by show _ ≤ 12181; omega)⟩) hS (fun q _ h => hFc q h) hFc (fun r u t9 H locs ht hvm hw hB hz1 hk1 hS => ?_)
      obtain ⟨z, fo1⟩ := u
      obtain ⟨rfl, hv1, hv2⟩ := hw
      dsimp only at hv1 hv2
      obtain ⟨hP1, -, hD1⟩ := hB
      rw [ht] at hP1
      obtain ⟨hP, hD⟩ := va_join (wr := MW b cI cZ cD mth sh mst ts mbi mpr mba (nI t) (nI n) it tu lk mus mud mfs mfb mbo mso mpc mne ++ [(o8, .inl (cD, 1, .inr (.inr (.inr (.inl fd)))))]) (w1 := XWJ o9 cJ a cI cZ cD sh (upd sw o can) ts bi it tu ne pr so lo (nI t) (nI n) lp lz lu lk ld lf lb lw fo1) hP hD [0, 1, 2, 3, 4, 5, 6, 7, 8, 9, 10, 11, 12, 13, 14, 15, 16, 33] [17, 18, 19, 20, 21, 22, 23, 24, 25, 26, 27, 28, 29, 30, 31, 32, 34] rfl rfl (by decide) (by decide) hk1 hFc hP1 hD1
      have hP : va_P D vwCl (WL o9 o8 cJ a b cI cZ cD sh (upd sw o can) ts bi it tu ne pr so lo (nI t) (nI n) lp lz lu lk ld lf lb lw mth sh mst ts mbi mpr mba (nI t) (nI n) it tu lk mus mud mfs mfb mbo mso mpc mne fo1 fd) H := hP.sub [17, 18, 19, 20, 21, 22, 23, 24, 25, 26, 27, 28, 29, 30, 31, 32, 33, 0, 1, 2, 3, 4, 5, 6, 7, 8, 9, 10, 11, 12, 13, 14, 15, 34, 16] rfl
      have hD : va_D (fun q => s.heap.size ≤ q) (WL o9 o8 cJ a b cI cZ cD sh (upd sw o can) ts bi it tu ne pr so lo (nI t) (nI n) lp lz lu lk ld lf lb lw mth sh mst ts mbi mpr mba (nI t) (nI n) it tu lk mus mud mfs mfb mbo mso mpc mne fo1 fd) := hD.sub [17, 18, 19, 20, 21, 22, 23, 24, 25, 26, 27, 28, 29, 30, 31, 32, 33, 0, 1, 2, 3, 4, 5, 6, 7, 8, 9, 10, 11, 12, 13, 14, 15, 34, 16] (by decide) rfl
      rw [hsm o ho] at hv1
      refine lv_istore (lv' := [(6, .int 0), (0, .ref b9), (1, .ref (a 0)), (2, .ref (b 0)), (3, .ref o9), (4, .ref o8), (5, .int (nI (4 * i)))]) hx hb dL_law_217 hl (by decide) rfl (fun ls hl => ?_)
      refine lv_aload_n hx hb dL_law_219 rfl (lv_at hl 3 rfl) ?_
      refine lv_aload_n hx hb dL_law_220 rfl (lv_at hl 1 rfl) ?_
      refine lv_iload hx hb dL_law_221 (lv_at hl 6 rfl) ?_
      refine lv_iconst (v := nI 1) hx hb dL_law_223 (by decide) ?_
      refine lv_iadd hx hb dL_law_224 ?_
      refine xk_i (y := nI (4 * i + 1)) (nI_add _ _) ?_
      refine va_sld hx hb (X_drawn hX) hbl hbA hS (i := nI (4 * i + 1)) (vp_in_nI (by omega) (by omega)) dL_law_225 ?_
      refine xk_i (y := nI o) hx1.symm ?_
      refine lv_aload_n hx hb dL_law_226 rfl (lv_at hl 1 rfl) ?_
      refine lv_iload hx hb dL_law_227 (lv_at hl 6 rfl) ?_
      refine lv_iconst (v := nI 2) hx hb dL_law_229 (by decide) ?_
      refine lv_iadd hx hb dL_law_230 ?_
      refine xk_i (y := nI (4 * i + 2)) (nI_add _ _) ?_
      refine va_sld hx hb (X_drawn hX) hbl hbA hS (i := nI (4 * i + 2)) (vp_in_nI (by omega) (by omega)) dL_law_231 ?_
      refine xk_i (y := x2) hx2.symm ?_
      refine lv_if_eq (tgt := 239) hx hb dL_law_232 (by decide) (fun c => ?_) (fun c => absurd hz c)
      refine lv_iconst (v := nI 0) hx hb dL_law_239 (by decide) ?_
      refine xk_i (y := can) hcz.symm ?_
      have hPc : va_P D vwCl (MW b cI cZ cD mth sh mst ts mbi mpr mba (nI t) (nI n) it tu lk mus mud mfs mfb mbo mso mpc mne) H := hP.sub [17, 18, 19, 20, 21, 22, 23, 24, 25, 26, 27, 28, 29, 30, 31, 32] rfl
      have hDc : va_D (fun q => s.heap.size ≤ q) (MW b cI cZ cD mth sh mst ts mbi mpr mba (nI t) (nI n) it tu lk mus mud mfs mfb mbo mso mpc mne) := hD.sub [17, 18, 19, 20, 21, 22, 23, 24, 25, 26, 27, 28, 29, 30, 31, 32] (by decide) rfl
      have hFc := va_free (wc := MW b cI cZ cD mth sh mst ts mbi mpr mba (nI t) (nI n) it tu lk mus mud mfs mfb mbo mso mpc mne) hD hS hA [17, 18, 19, 20, 21, 22, 23, 24, 25, 26, 27, 28, 29, 30, 31, 32] rfl
      refine va_calli (va_runV (As := [.int (nI o), .int can]) (rest := []) ⟨hx, hb, hml, xk_od hown, dr_words hts _⟩ (mX2_setSwitchV l D cI cZ cD b _ mth sh mst ts mbi mpr mba (nI t) (nI n) it tu lk mus mud mfs mfb mbo mso mpc mne o can ho) (cwV 2 (dr_words hts _) gL_law_X2_setSwitch rfl rfl rfl (by decide +kernel) ⟨Nat.le_of_ble_eq_true rfl, Nat.le_of_ble_eq_true rfl⟩) ⟨xk_blind, va_recv (yk_Kd hK) hP (ci := 2) (q0 := 17) rfl rfl, xk_pre hPc ((yk_Kd hK).sub [0, 1, 2] rfl) hDc⟩ rfl rfl hl.1 rfl (lv_room (Nat.le_of_ble_eq_true rfl)) dL_law_240 ⟨(by show _ ≤ 1065; omega), (by show _ ≤ 12181; omega)⟩) hS (fun q _ h => hFc q h) hFc (fun r2 u t9 H locs ht hvm hw hB hz1 hk1 hS => ?_)
      obtain ⟨hP1, -, hD1⟩ := hB
      rw [ht] at hP1
      obtain ⟨hP, hD⟩ := va_join (wr := XW a cI cZ cD sh (upd sw o can) ts bi it tu ne pr so lo (nI t) (nI n) lp lz lu lk ld lf lb lw ++ [(o9, .inl (cJ, 1, .inr (.inl fo1))), (o8, .inl (cD, 1, .inr (.inr (.inr (.inl fd)))))]) (w1 := MW b cI cZ cD 0 sh (upd mst o (bI (can = 0))) ts mbi mpr mba (nI t) (nI n) it tu lk mus mud mfs mfb mbo mso mpc mne) hP hD [17, 18, 19, 20, 21, 22, 23, 24, 25, 26, 27, 28, 29, 30, 31, 32] [0, 1, 2, 3, 4, 5, 6, 7, 8, 9, 10, 11, 12, 13, 14, 15, 16, 33, 34] rfl rfl (by decide) (by decide) hk1 hFc hP1 hD1
      have hP : va_P D vwCl (WL o9 o8 cJ a b cI cZ cD sh (upd sw o can) ts bi it tu ne pr so lo (nI t) (nI n) lp lz lu lk ld lf lb lw 0 sh (upd mst o (bI (can = 0))) ts mbi mpr mba (nI t) (nI n) it tu lk mus mud mfs mfb mbo mso mpc mne fo1 fd) H := hP.sub [0, 1, 2, 3, 4, 5, 6, 7, 8, 9, 10, 11, 12, 13, 14, 15, 16, 19, 20, 21, 22, 23, 24, 25, 26, 27, 28, 29, 30, 31, 32, 33, 34, 17, 18] rfl
      have hD : va_D (fun q => s.heap.size ≤ q) (WL o9 o8 cJ a b cI cZ cD sh (upd sw o can) ts bi it tu ne pr so lo (nI t) (nI n) lp lz lu lk ld lf lb lw 0 sh (upd mst o (bI (can = 0))) ts mbi mpr mba (nI t) (nI n) it tu lk mus mud mfs mfb mbo mso mpc mne fo1 fd) := hD.sub [0, 1, 2, 3, 4, 5, 6, 7, 8, 9, 10, 11, 12, 13, 14, 15, 16, 19, 20, 21, 22, 23, 24, 25, 26, 27, 28, 29, 30, 31, 32, 33, 34, 17, 18] (by decide) rfl
      subst hw
      refine lv_istore (lv' := [(7, .int (bI (mst o = 0))), (6, .int 0), (0, .ref b9), (1, .ref (a 0)), (2, .ref (b 0)), (3, .ref o9), (4, .ref o8), (5, .int (nI (4 * i)))]) hx hb dL_law_243 hl (by decide) rfl (fun ls hl => ?_)
      refine lv_aload_n hx hb dL_law_245 rfl (lv_at hl 4 rfl) ?_
      have hPc : va_P D vwCl (MW b cI cZ cD 0 sh (upd mst o (bI (can = 0))) ts mbi mpr mba (nI t) (nI n) it tu lk mus mud mfs mfb mbo mso mpc mne) H := hP.sub [17, 18, 19, 20, 21, 22, 23, 24, 25, 26, 27, 28, 29, 30, 31, 32] rfl
      have hDc : va_D (fun q => s.heap.size ≤ q) (MW b cI cZ cD 0 sh (upd mst o (bI (can = 0))) ts mbi mpr mba (nI t) (nI n) it tu lk mus mud mfs mfb mbo mso mpc mne) := hD.sub [17, 18, 19, 20, 21, 22, 23, 24, 25, 26, 27, 28, 29, 30, 31, 32] (by decide) rfl
      have hFc := va_free (wc := MW b cI cZ cD 0 sh (upd mst o (bI (can = 0))) ts mbi mpr mba (nI t) (nI n) it tu lk mus mud mfs mfb mbo mso mpc mne) hD hS hA [17, 18, 19, 20, 21, 22, 23, 24, 25, 26, 27, 28, 29, 30, 31, 32] rfl
      refine va_calli (va_runV (As := []) (rest := []) ⟨hx, hb, hml, xk_od hown, dr_words hts _⟩ (mX2_thrown l D cI cZ cD b _ 0 sh (upd mst o (bI (can = 0))) ts mbi mpr mba (nI t) (nI n) it tu lk mus mud mfs mfb mbo mso mpc mne ) (cwV 0 (dr_words hts _) gL_law_X2_thrown rfl rfl rfl (by decide +kernel) ⟨Nat.le_of_ble_eq_true rfl, Nat.le_of_ble_eq_true rfl⟩) ⟨xk_blind, va_recv (yk_Kd hK) hP (ci := 2) (q0 := 17) rfl rfl, xk_pre hPc ((yk_Kd hK).sub [0, 1, 2] rfl) hDc⟩ rfl rfl hl.1 rfl (lv_room (Nat.le_of_ble_eq_true rfl)) dL_law_246 ⟨(by show _ ≤ 1065; omega), (by show _ ≤ 12181; omega)⟩) hS (fun q _ h => hFc q h) hFc (fun r8 u8 t9 H locs ht hvm hw hB hz1 hk1 hS => ?_)
      obtain ⟨hP1, -, hD1⟩ := hB
      rw [ht] at hP1
      obtain ⟨hP, hD⟩ := va_join (wr := XW a cI cZ cD sh (upd sw o can) ts bi it tu ne pr so lo (nI t) (nI n) lp lz lu lk ld lf lb lw ++ [(o9, .inl (cJ, 1, .inr (.inl fo1))), (o8, .inl (cD, 1, .inr (.inr (.inr (.inl fd)))))]) (w1 := MW b cI cZ cD 0 sh (upd mst o (bI (can = 0))) ts mbi mpr mba (nI t) (nI n) it tu lk mus mud mfs mfb mbo mso mpc mne) hP hD [17, 18, 19, 20, 21, 22, 23, 24, 25, 26, 27, 28, 29, 30, 31, 32] [0, 1, 2, 3, 4, 5, 6, 7, 8, 9, 10, 11, 12, 13, 14, 15, 16, 33, 34] rfl rfl (by decide) (by decide) hk1 hFc hP1 hD1
      have hP : va_P D vwCl (WL o9 o8 cJ a b cI cZ cD sh (upd sw o can) ts bi it tu ne pr so lo (nI t) (nI n) lp lz lu lk ld lf lb lw 0 sh (upd mst o (bI (can = 0))) ts mbi mpr mba (nI t) (nI n) it tu lk mus mud mfs mfb mbo mso mpc mne fo1 fd) H := hP.sub [0, 1, 2, 3, 4, 5, 6, 7, 8, 9, 10, 11, 12, 13, 14, 15, 16, 19, 20, 21, 22, 23, 24, 25, 26, 27, 28, 29, 30, 31, 32, 33, 34, 17, 18] rfl
      have hD : va_D (fun q => s.heap.size ≤ q) (WL o9 o8 cJ a b cI cZ cD sh (upd sw o can) ts bi it tu ne pr so lo (nI t) (nI n) lp lz lu lk ld lf lb lw 0 sh (upd mst o (bI (can = 0))) ts mbi mpr mba (nI t) (nI n) it tu lk mus mud mfs mfb mbo mso mpc mne fo1 fd) := hD.sub [0, 1, 2, 3, 4, 5, 6, 7, 8, 9, 10, 11, 12, 13, 14, 15, 16, 19, 20, 21, 22, 23, 24, 25, 26, 27, 28, 29, 30, 31, 32, 33, 34, 17, 18] (by decide) rfl
      refine xk_i (y := 0) hw ?_
      refine lv_iload hx hb dL_law_249 (lv_at hl 1 rfl) ?_
      refine lv_icmp_eq (tgt := 256) hx hb dL_law_251 (by decide) (fun c => ?_) (fun c => absurd rfl c)
      refine lv_iload hx hb dL_law_256 (lv_at hl 1 rfl) ?_
      refine lv_if_ne (tgt := 280) hx hb dL_law_258 (by decide) (fun c => absurd rfl c) (fun c => ?_)
      refine lv_aload_n hx hb dL_law_261 rfl (lv_at hl 5 rfl) ?_
      refine lv_iconst (v := nI 0) hx hb dL_law_262 (by decide) ?_
      refine va_lald hx hb (yk_Kd hK) hP 33 3 rfl rfl (i := nI 0) (vp_in_nI (by decide) (by decide)) dL_law_263 ?_
      refine xk_l (y := bL (bI (mst o = 0))) hv1 ?_
      refine lv_iload hx hb dL_law_264 (lv_at hl 0 rfl) ?_
      refine lv_if_eq (tgt := 273) hx hb dL_law_266 (by decide) (fun c => ?_) (fun c => ?_)
      · skip
        have eb : bL (bI (mst o = 0)) = 0 := if_pos c
        refine lv_lconst (v := 0) hx hb dL_law_273 (by decide) ?_
        refine W.lcmp hx hb dL_law_274 ?_
        refine xk_i (y := 0) (by rw [eb]; exact lcmp_self _) ?_
        refine lv_if_eq (tgt := 280) hx hb dL_law_275 (by decide) (fun c => ?_) (fun c => absurd rfl c)
        refine lv_goto (tgt := 1232) hx hb dL_law_280 (by decide) ?_
        refine lv_iinc (v := nI (4 * (i + 1))) (lv' := [(5, .int (nI (4 * (i + 1)))), (7, .int (bI (mst o = 0))), (6, .int 0), (0, .ref b9), (1, .ref (a 0)), (2, .ref (b 0)), (3, .ref o9), (4, .ref o8)]) hx hb dL_law_1232 hl (k := 7) rfl (iinc4 i) (by decide) rfl (fun ls hl => ?_)
        refine lv_goto (tgt := 28) hx hb dL_law_1235 (by decide) ?_
        refine W.widen (k := 35 + (i + 1)) (n := 3953 + 6 * (i + 1)) (by omega) (by omega) ?_
        exact next _ _ _ _ ⟨n, t, sh, upd sw o can, ts, bi, it, tu, ne, pr, so, lo, lp, lz, lu, lk, ld, lf, lb, lw, 0, upd mst o (bI (can = 0)), mbi, mpr, mba, mus, mud, mfs, mfb, mbo, mso, mpc, mne, fo1, fd, ⟨hn, ht5, sw_up hsm hcan, upd01 hsw hcan o, hit, hbi, hpr, hso, hlu, hld, hlf, hlz9, hlb, hlw, hlz, hlp⟩, hP, hD, hS, hdl, lv_sub hl [3, 4, 5, 6, 7, 0] rfl⟩
      · skip
        have eb : bL (bI (mst o = 0)) = 1 := if_neg c
        refine lv_lconst (v := 1) hx hb dL_law_269 (by decide) ?_
        refine lv_goto (tgt := 274) hx hb dL_law_270 (by decide) ?_
        refine W.lcmp hx hb dL_law_274 ?_
        refine xk_i (y := 0) (by rw [eb]; exact lcmp_self _) ?_
        refine lv_if_eq (tgt := 280) hx hb dL_law_275 (by decide) (fun c => ?_) (fun c => absurd rfl c)
        refine lv_goto (tgt := 1232) hx hb dL_law_280 (by decide) ?_
        refine lv_iinc (v := nI (4 * (i + 1))) (lv' := [(5, .int (nI (4 * (i + 1)))), (7, .int (bI (mst o = 0))), (6, .int 0), (0, .ref b9), (1, .ref (a 0)), (2, .ref (b 0)), (3, .ref o9), (4, .ref o8)]) hx hb dL_law_1232 hl (k := 7) rfl (iinc4 i) (by decide) rfl (fun ls hl => ?_)
        refine lv_goto (tgt := 28) hx hb dL_law_1235 (by decide) ?_
        refine W.widen (k := 35 + (i + 1)) (n := 3953 + 6 * (i + 1)) (by omega) (by omega) ?_
        exact next _ _ _ _ ⟨n, t, sh, upd sw o can, ts, bi, it, tu, ne, pr, so, lo, lp, lz, lu, lk, ld, lf, lb, lw, 0, upd mst o (bI (can = 0)), mbi, mpr, mba, mus, mud, mfs, mfb, mbo, mso, mpc, mne, fo1, fd, ⟨hn, ht5, sw_up hsm hcan, upd01 hsw hcan o, hit, hbi, hpr, hso, hlu, hld, hlf, hlz9, hlb, hlw, hlz, hlp⟩, hP, hD, hS, hdl, lv_sub hl [3, 4, 5, 6, 7, 0] rfl⟩
    · skip
      refine lv_aload_n hx hb dL_law_192 rfl (lv_at hl 1 rfl) ?_
      refine lv_aload_n hx hb dL_law_193 rfl (lv_at hl 0 rfl) ?_
      refine lv_iload hx hb dL_law_194 (lv_at hl 5 rfl) ?_
      refine lv_iconst (v := nI 1) hx hb dL_law_196 (by decide) ?_
      refine lv_iadd hx hb dL_law_197 ?_
      refine xk_i (y := nI (4 * i + 1)) (nI_add _ _) ?_
      refine va_sld hx hb (X_drawn hX) hbl hbA hS (i := nI (4 * i + 1)) (vp_in_nI (by omega) (by omega)) dL_law_198 ?_
      refine xk_i (y := nI o) hx1.symm ?_
      refine lv_aload_n hx hb dL_law_199 rfl (lv_at hl 0 rfl) ?_
      refine lv_iload hx hb dL_law_200 (lv_at hl 5 rfl) ?_
      refine lv_iconst (v := nI 2) hx hb dL_law_202 (by decide) ?_
      refine lv_iadd hx hb dL_law_203 ?_
      refine xk_i (y := nI (4 * i + 2)) (nI_add _ _) ?_
      refine va_sld hx hb (X_drawn hX) hbl hbA hS (i := nI (4 * i + 2)) (vp_in_nI (by omega) (by omega)) dL_law_204 ?_
      refine xk_i (y := x2) hx2.symm ?_
      refine lv_if_eq (tgt := 212) hx hb dL_law_205 (by decide) (fun c => absurd c hz) (fun c => ?_)
      refine lv_iconst (v := nI 1) hx hb dL_law_208 (by decide) ?_
      refine lv_goto (tgt := 213) hx hb dL_law_209 (by decide) ?_
      refine xk_i (y := can) hcz.symm ?_
      refine lv_aload_n hx hb dL_law_213 rfl (lv_at hl 3 rfl) ?_
      have hPc : va_P D vwCl (XWJ o9 cJ a cI cZ cD sh sw ts bi it tu ne pr so lo (nI t) (nI n) lp lz lu lk ld lf lb lw fo) H := hP.sub [0, 1, 2, 3, 4, 5, 6, 7, 8, 9, 10, 11, 12, 13, 14, 15, 16, 33] rfl
      have hDc : va_D (fun q => s.heap.size ≤ q) (XWJ o9 cJ a cI cZ cD sh sw ts bi it tu ne pr so lo (nI t) (nI n) lp lz lu lk ld lf lb lw fo) := hD.sub [0, 1, 2, 3, 4, 5, 6, 7, 8, 9, 10, 11, 12, 13, 14, 15, 16, 33] (by decide) rfl
      have hFc := va_free (wc := XWJ o9 cJ a cI cZ cD sh sw ts bi it tu ne pr so lo (nI t) (nI n) lp lz lu lk ld lf lb lw fo) hD hS hA [0, 1, 2, 3, 4, 5, 6, 7, 8, 9, 10, 11, 12, 13, 14, 15, 16, 33] rfl
      refine va_calli (vx_runSW (As := [.ref (a 0), .int (nI o), .int can, .ref o9]) (rest := []) ⟨hx, hb, hml, xk_od hown, dr_words hts _⟩ (mL_setSwitchV l D cI cZ cD cJ a o9 _ sh sw ts bi it tu ne pr so lo (nI t) (nI n) lp lz lu lk ld lf lb lw fo o can ho hcan hsw) (vx_cwSW 4 (dr_words hts _) gL_law_L_setSwitch rfl rfl rfl (by decide +kernel) ⟨Nat.le_of_ble_eq_true rfl, Nat.le_of_ble_eq_true rfl⟩) ⟨yk_blind, yk_pre hPc (yk_Kd hK) hDc⟩ rfl rfl hl.1 rfl (lv_room (Nat.le_of_ble_eq_true rfl)) dL_law_214 ⟨(by show _ ≤ 1065; omega), (by show _ ≤ 12181; omega)⟩) hS (fun q _ h => hFc q h) hFc (fun r u t9 H locs ht hvm hw hB hz1 hk1 hS => ?_)
      obtain ⟨z, fo1⟩ := u
      obtain ⟨rfl, hv1, hv2⟩ := hw
      dsimp only at hv1 hv2
      obtain ⟨hP1, -, hD1⟩ := hB
      rw [ht] at hP1
      obtain ⟨hP, hD⟩ := va_join (wr := MW b cI cZ cD mth sh mst ts mbi mpr mba (nI t) (nI n) it tu lk mus mud mfs mfb mbo mso mpc mne ++ [(o8, .inl (cD, 1, .inr (.inr (.inr (.inl fd)))))]) (w1 := XWJ o9 cJ a cI cZ cD sh (upd sw o can) ts bi it tu ne pr so lo (nI t) (nI n) lp lz lu lk ld lf lb lw fo1) hP hD [0, 1, 2, 3, 4, 5, 6, 7, 8, 9, 10, 11, 12, 13, 14, 15, 16, 33] [17, 18, 19, 20, 21, 22, 23, 24, 25, 26, 27, 28, 29, 30, 31, 32, 34] rfl rfl (by decide) (by decide) hk1 hFc hP1 hD1
      have hP : va_P D vwCl (WL o9 o8 cJ a b cI cZ cD sh (upd sw o can) ts bi it tu ne pr so lo (nI t) (nI n) lp lz lu lk ld lf lb lw mth sh mst ts mbi mpr mba (nI t) (nI n) it tu lk mus mud mfs mfb mbo mso mpc mne fo1 fd) H := hP.sub [17, 18, 19, 20, 21, 22, 23, 24, 25, 26, 27, 28, 29, 30, 31, 32, 33, 0, 1, 2, 3, 4, 5, 6, 7, 8, 9, 10, 11, 12, 13, 14, 15, 34, 16] rfl
      have hD : va_D (fun q => s.heap.size ≤ q) (WL o9 o8 cJ a b cI cZ cD sh (upd sw o can) ts bi it tu ne pr so lo (nI t) (nI n) lp lz lu lk ld lf lb lw mth sh mst ts mbi mpr mba (nI t) (nI n) it tu lk mus mud mfs mfb mbo mso mpc mne fo1 fd) := hD.sub [17, 18, 19, 20, 21, 22, 23, 24, 25, 26, 27, 28, 29, 30, 31, 32, 33, 0, 1, 2, 3, 4, 5, 6, 7, 8, 9, 10, 11, 12, 13, 14, 15, 34, 16] (by decide) rfl
      rw [hsm o ho] at hv1
      refine lv_istore (lv' := [(6, .int 0), (0, .ref b9), (1, .ref (a 0)), (2, .ref (b 0)), (3, .ref o9), (4, .ref o8), (5, .int (nI (4 * i)))]) hx hb dL_law_217 hl (by decide) rfl (fun ls hl => ?_)
      refine lv_aload_n hx hb dL_law_219 rfl (lv_at hl 3 rfl) ?_
      refine lv_aload_n hx hb dL_law_220 rfl (lv_at hl 1 rfl) ?_
      refine lv_iload hx hb dL_law_221 (lv_at hl 6 rfl) ?_
      refine lv_iconst (v := nI 1) hx hb dL_law_223 (by decide) ?_
      refine lv_iadd hx hb dL_law_224 ?_
      refine xk_i (y := nI (4 * i + 1)) (nI_add _ _) ?_
      refine va_sld hx hb (X_drawn hX) hbl hbA hS (i := nI (4 * i + 1)) (vp_in_nI (by omega) (by omega)) dL_law_225 ?_
      refine xk_i (y := nI o) hx1.symm ?_
      refine lv_aload_n hx hb dL_law_226 rfl (lv_at hl 1 rfl) ?_
      refine lv_iload hx hb dL_law_227 (lv_at hl 6 rfl) ?_
      refine lv_iconst (v := nI 2) hx hb dL_law_229 (by decide) ?_
      refine lv_iadd hx hb dL_law_230 ?_
      refine xk_i (y := nI (4 * i + 2)) (nI_add _ _) ?_
      refine va_sld hx hb (X_drawn hX) hbl hbA hS (i := nI (4 * i + 2)) (vp_in_nI (by omega) (by omega)) dL_law_231 ?_
      refine xk_i (y := x2) hx2.symm ?_
      refine lv_if_eq (tgt := 239) hx hb dL_law_232 (by decide) (fun c => absurd c hz) (fun c => ?_)
      refine lv_iconst (v := nI 1) hx hb dL_law_235 (by decide) ?_
      refine lv_goto (tgt := 240) hx hb dL_law_236 (by decide) ?_
      refine xk_i (y := can) hcz.symm ?_
      have hPc : va_P D vwCl (MW b cI cZ cD mth sh mst ts mbi mpr mba (nI t) (nI n) it tu lk mus mud mfs mfb mbo mso mpc mne) H := hP.sub [17, 18, 19, 20, 21, 22, 23, 24, 25, 26, 27, 28, 29, 30, 31, 32] rfl
      have hDc : va_D (fun q => s.heap.size ≤ q) (MW b cI cZ cD mth sh mst ts mbi mpr mba (nI t) (nI n) it tu lk mus mud mfs mfb mbo mso mpc mne) := hD.sub [17, 18, 19, 20, 21, 22, 23, 24, 25, 26, 27, 28, 29, 30, 31, 32] (by decide) rfl
      have hFc := va_free (wc := MW b cI cZ cD mth sh mst ts mbi mpr mba (nI t) (nI n) it tu lk mus mud mfs mfb mbo mso mpc mne) hD hS hA [17, 18, 19, 20, 21, 22, 23, 24, 25, 26, 27, 28, 29, 30, 31, 32] rfl
      refine va_calli (va_runV (As := [.int (nI o), .int can]) (rest := []) ⟨hx, hb, hml, xk_od hown, dr_words hts _⟩ (mX2_setSwitchV l D cI cZ cD b _ mth sh mst ts mbi mpr mba (nI t) (nI n) it tu lk mus mud mfs mfb mbo mso mpc mne o can ho) (cwV 2 (dr_words hts _) gL_law_X2_setSwitch rfl rfl rfl (by decide +kernel) ⟨Nat.le_of_ble_eq_true rfl, Nat.le_of_ble_eq_true rfl⟩) ⟨xk_blind, va_recv (yk_Kd hK) hP (ci := 2) (q0 := 17) rfl rfl, xk_pre hPc ((yk_Kd hK).sub [0, 1, 2] rfl) hDc⟩ rfl rfl hl.1 rfl (lv_room (Nat.le_of_ble_eq_true rfl)) dL_law_240 ⟨(by show _ ≤ 1065; omega), (by show _ ≤ 12181; omega)⟩) hS (fun q _ h => hFc q h) hFc (fun r2 u t9 H locs ht hvm hw hB hz1 hk1 hS => ?_)
      obtain ⟨hP1, -, hD1⟩ := hB
      rw [ht] at hP1
      obtain ⟨hP, hD⟩ := va_join (wr := XW a cI cZ cD sh (upd sw o can) ts bi it tu ne pr so lo (nI t) (nI n) lp lz lu lk ld lf lb lw ++ [(o9, .inl (cJ, 1, .inr (.inl fo1))), (o8, .inl (cD, 1, .inr (.inr (.inr (.inl fd)))))]) (w1 := MW b cI cZ cD 0 sh (upd mst o (bI (can = 0))) ts mbi mpr mba (nI t) (nI n) it tu lk mus mud mfs mfb mbo mso mpc mne) hP hD [17, 18, 19, 20, 21, 22, 23, 24, 25, 26, 27, 28, 29, 30, 31, 32] [0, 1, 2, 3, 4, 5, 6, 7, 8, 9, 10, 11, 12, 13, 14, 15, 16, 33, 34] rfl rfl (by decide) (by decide) hk1 hFc hP1 hD1
      have hP : va_P D vwCl (WL o9 o8 cJ a b cI cZ cD sh (upd sw o can) ts bi it tu ne pr so lo (nI t) (nI n) lp lz lu lk ld lf lb lw 0 sh (upd mst o (bI (can = 0))) ts mbi mpr mba (nI t) (nI n) it tu lk mus mud mfs mfb mbo mso mpc mne fo1 fd) H := hP.sub [0, 1, 2, 3, 4, 5, 6, 7, 8, 9, 10, 11, 12, 13, 14, 15, 16, 19, 20, 21, 22, 23, 24, 25, 26, 27, 28, 29, 30, 31, 32, 33, 34, 17, 18] rfl
      have hD : va_D (fun q => s.heap.size ≤ q) (WL o9 o8 cJ a b cI cZ cD sh (upd sw o can) ts bi it tu ne pr so lo (nI t) (nI n) lp lz lu lk ld lf lb lw 0 sh (upd mst o (bI (can = 0))) ts mbi mpr mba (nI t) (nI n) it tu lk mus mud mfs mfb mbo mso mpc mne fo1 fd) := hD.sub [0, 1, 2, 3, 4, 5, 6, 7, 8, 9, 10, 11, 12, 13, 14, 15, 16, 19, 20, 21, 22, 23, 24, 25, 26, 27, 28, 29, 30, 31, 32, 33, 34, 17, 18] (by decide) rfl
      subst hw
      refine lv_istore (lv' := [(7, .int (bI (mst o = 0))), (6, .int 0), (0, .ref b9), (1, .ref (a 0)), (2, .ref (b 0)), (3, .ref o9), (4, .ref o8), (5, .int (nI (4 * i)))]) hx hb dL_law_243 hl (by decide) rfl (fun ls hl => ?_)
      refine lv_aload_n hx hb dL_law_245 rfl (lv_at hl 4 rfl) ?_
      have hPc : va_P D vwCl (MW b cI cZ cD 0 sh (upd mst o (bI (can = 0))) ts mbi mpr mba (nI t) (nI n) it tu lk mus mud mfs mfb mbo mso mpc mne) H := hP.sub [17, 18, 19, 20, 21, 22, 23, 24, 25, 26, 27, 28, 29, 30, 31, 32] rfl
      have hDc : va_D (fun q => s.heap.size ≤ q) (MW b cI cZ cD 0 sh (upd mst o (bI (can = 0))) ts mbi mpr mba (nI t) (nI n) it tu lk mus mud mfs mfb mbo mso mpc mne) := hD.sub [17, 18, 19, 20, 21, 22, 23, 24, 25, 26, 27, 28, 29, 30, 31, 32] (by decide) rfl
      have hFc := va_free (wc := MW b cI cZ cD 0 sh (upd mst o (bI (can = 0))) ts mbi mpr mba (nI t) (nI n) it tu lk mus mud mfs mfb mbo mso mpc mne) hD hS hA [17, 18, 19, 20, 21, 22, 23, 24, 25, 26, 27, 28, 29, 30, 31, 32] rfl
      refine va_calli (va_runV (As := []) (rest := []) ⟨hx, hb, hml, xk_od hown, dr_words hts _⟩ (mX2_thrown l D cI cZ cD b _ 0 sh (upd mst o (bI (can = 0))) ts mbi mpr mba (nI t) (nI n) it tu lk mus mud mfs mfb mbo mso mpc mne ) (cwV 0 (dr_words hts _) gL_law_X2_thrown rfl rfl rfl (by decide +kernel) ⟨Nat.le_of_ble_eq_true rfl, Nat.le_of_ble_eq_true rfl⟩) ⟨xk_blind, va_recv (yk_Kd hK) hP (ci := 2) (q0 := 17) rfl rfl, xk_pre hPc ((yk_Kd hK).sub [0, 1, 2] rfl) hDc⟩ rfl rfl hl.1 rfl (lv_room (Nat.le_of_ble_eq_true rfl)) dL_law_246 ⟨(by show _ ≤ 1065; omega), (by show _ ≤ 12181; omega)⟩) hS (fun q _ h => hFc q h) hFc (fun r8 u8 t9 H locs ht hvm hw hB hz1 hk1 hS => ?_)
      obtain ⟨hP1, -, hD1⟩ := hB
      rw [ht] at hP1
      obtain ⟨hP, hD⟩ := va_join (wr := XW a cI cZ cD sh (upd sw o can) ts bi it tu ne pr so lo (nI t) (nI n) lp lz lu lk ld lf lb lw ++ [(o9, .inl (cJ, 1, .inr (.inl fo1))), (o8, .inl (cD, 1, .inr (.inr (.inr (.inl fd)))))]) (w1 := MW b cI cZ cD 0 sh (upd mst o (bI (can = 0))) ts mbi mpr mba (nI t) (nI n) it tu lk mus mud mfs mfb mbo mso mpc mne) hP hD [17, 18, 19, 20, 21, 22, 23, 24, 25, 26, 27, 28, 29, 30, 31, 32] [0, 1, 2, 3, 4, 5, 6, 7, 8, 9, 10, 11, 12, 13, 14, 15, 16, 33, 34] rfl rfl (by decide) (by decide) hk1 hFc hP1 hD1
      have hP : va_P D vwCl (WL o9 o8 cJ a b cI cZ cD sh (upd sw o can) ts bi it tu ne pr so lo (nI t) (nI n) lp lz lu lk ld lf lb lw 0 sh (upd mst o (bI (can = 0))) ts mbi mpr mba (nI t) (nI n) it tu lk mus mud mfs mfb mbo mso mpc mne fo1 fd) H := hP.sub [0, 1, 2, 3, 4, 5, 6, 7, 8, 9, 10, 11, 12, 13, 14, 15, 16, 19, 20, 21, 22, 23, 24, 25, 26, 27, 28, 29, 30, 31, 32, 33, 34, 17, 18] rfl
      have hD : va_D (fun q => s.heap.size ≤ q) (WL o9 o8 cJ a b cI cZ cD sh (upd sw o can) ts bi it tu ne pr so lo (nI t) (nI n) lp lz lu lk ld lf lb lw 0 sh (upd mst o (bI (can = 0))) ts mbi mpr mba (nI t) (nI n) it tu lk mus mud mfs mfb mbo mso mpc mne fo1 fd) := hD.sub [0, 1, 2, 3, 4, 5, 6, 7, 8, 9, 10, 11, 12, 13, 14, 15, 16, 19, 20, 21, 22, 23, 24, 25, 26, 27, 28, 29, 30, 31, 32, 33, 34, 17, 18] (by decide) rfl
      refine xk_i (y := 0) hw ?_
      refine lv_iload hx hb dL_law_249 (lv_at hl 1 rfl) ?_
      refine lv_icmp_eq (tgt := 256) hx hb dL_law_251 (by decide) (fun c => ?_) (fun c => absurd rfl c)
      refine lv_iload hx hb dL_law_256 (lv_at hl 1 rfl) ?_
      refine lv_if_ne (tgt := 280) hx hb dL_law_258 (by decide) (fun c => absurd rfl c) (fun c => ?_)
      refine lv_aload_n hx hb dL_law_261 rfl (lv_at hl 5 rfl) ?_
      refine lv_iconst (v := nI 0) hx hb dL_law_262 (by decide) ?_
      refine va_lald hx hb (yk_Kd hK) hP 33 3 rfl rfl (i := nI 0) (vp_in_nI (by decide) (by decide)) dL_law_263 ?_
      refine xk_l (y := bL (bI (mst o = 0))) hv1 ?_
      refine lv_iload hx hb dL_law_264 (lv_at hl 0 rfl) ?_
      refine lv_if_eq (tgt := 273) hx hb dL_law_266 (by decide) (fun c => ?_) (fun c => ?_)
      · skip
        have eb : bL (bI (mst o = 0)) = 0 := if_pos c
        refine lv_lconst (v := 0) hx hb dL_law_273 (by decide) ?_
        refine W.lcmp hx hb dL_law_274 ?_
        refine xk_i (y := 0) (by rw [eb]; exact lcmp_self _) ?_
        refine lv_if_eq (tgt := 280) hx hb dL_law_275 (by decide) (fun c => ?_) (fun c => absurd rfl c)
        refine lv_goto (tgt := 1232) hx hb dL_law_280 (by decide) ?_
        refine lv_iinc (v := nI (4 * (i + 1))) (lv' := [(5, .int (nI (4 * (i + 1)))), (7, .int (bI (mst o = 0))), (6, .int 0), (0, .ref b9), (1, .ref (a 0)), (2, .ref (b 0)), (3, .ref o9), (4, .ref o8)]) hx hb dL_law_1232 hl (k := 7) rfl (iinc4 i) (by decide) rfl (fun ls hl => ?_)
        refine lv_goto (tgt := 28) hx hb dL_law_1235 (by decide) ?_
        refine W.widen (k := 35 + (i + 1)) (n := 3953 + 6 * (i + 1)) (by omega) (by omega) ?_
        exact next _ _ _ _ ⟨n, t, sh, upd sw o can, ts, bi, it, tu, ne, pr, so, lo, lp, lz, lu, lk, ld, lf, lb, lw, 0, upd mst o (bI (can = 0)), mbi, mpr, mba, mus, mud, mfs, mfb, mbo, mso, mpc, mne, fo1, fd, ⟨hn, ht5, sw_up hsm hcan, upd01 hsw hcan o, hit, hbi, hpr, hso, hlu, hld, hlf, hlz9, hlb, hlw, hlz, hlp⟩, hP, hD, hS, hdl, lv_sub hl [3, 4, 5, 6, 7, 0] rfl⟩
      · skip
        have eb : bL (bI (mst o = 0)) = 1 := if_neg c
        refine lv_lconst (v := 1) hx hb dL_law_269 (by decide) ?_
        refine lv_goto (tgt := 274) hx hb dL_law_270 (by decide) ?_
        refine W.lcmp hx hb dL_law_274 ?_
        refine xk_i (y := 0) (by rw [eb]; exact lcmp_self _) ?_
        refine lv_if_eq (tgt := 280) hx hb dL_law_275 (by decide) (fun c => ?_) (fun c => absurd rfl c)
        refine lv_goto (tgt := 1232) hx hb dL_law_280 (by decide) ?_
        refine lv_iinc (v := nI (4 * (i + 1))) (lv' := [(5, .int (nI (4 * (i + 1)))), (7, .int (bI (mst o = 0))), (6, .int 0), (0, .ref b9), (1, .ref (a 0)), (2, .ref (b 0)), (3, .ref o9), (4, .ref o8)]) hx hb dL_law_1232 hl (k := 7) rfl (iinc4 i) (by decide) rfl (fun ls hl => ?_)
        refine lv_goto (tgt := 28) hx hb dL_law_1235 (by decide) ?_
        refine W.widen (k := 35 + (i + 1)) (n := 3953 + 6 * (i + 1)) (by omega) (by omega) ?_
        exact next _ _ _ _ ⟨n, t, sh, upd sw o can, ts, bi, it, tu, ne, pr, so, lo, lp, lz, lu, lk, ld, lf, lb, lw, 0, upd mst o (bI (can = 0)), mbi, mpr, mba, mus, mud, mfs, mfb, mbo, mso, mpc, mne, fo1, fd, ⟨hn, ht5, sw_up hsm hcan, upd01 hsw hcan o, hit, hbi, hpr, hso, hlu, hld, hlf, hlz9, hlb, hlw, hlz, hlp⟩, hP, hD, hS, hdl, lv_sub hl [3, 4, 5, 6, 7, 0] rfl⟩
  · skip
    rcases hz with ⟨hz, hcz⟩ | ⟨hz, hcz⟩
    · skip
      refine lv_aload_n hx hb dL_law_192 rfl (lv_at hl 1 rfl) ?_
      refine lv_aload_n hx hb dL_law_193 rfl (lv_at hl 0 rfl) ?_
      refine lv_iload hx hb dL_law_194 (lv_at hl 5 rfl) ?_
      refine lv_iconst (v := nI 1) hx hb dL_law_196 (by decide) ?_
      refine lv_iadd hx hb dL_law_197 ?_
      refine xk_i (y := nI (4 * i + 1)) (nI_add _ _) ?_
      refine va_sld hx hb (X_drawn hX) hbl hbA hS (i := nI (4 * i + 1)) (vp_in_nI (by omega) (by omega)) dL_law_198 ?_
      refine xk_i (y := x1) hx1.symm ?_
      refine lv_aload_n hx hb dL_law_199 rfl (lv_at hl 0 rfl) ?_
      refine lv_iload hx hb dL_law_200 (lv_at hl 5 rfl) ?_
      refine lv_iconst (v := nI 2) hx hb dL_law_202 (by decide) ?_
      refine lv_iadd hx hb dL_law_203 ?_
      refine xk_i (y := nI (4 * i + 2)) (nI_add _ _) ?_
      refine va_sld hx hb (X_drawn hX) hbl hbA hS (i := nI (4 * i + 2)) (vp_in_nI (by omega) (by omega)) dL_law_204 ?_
      refine xk_i (y := x2) hx2.symm ?_
      refine lv_if_eq (tgt := 212) hx hb dL_law_205 (by decide) (fun c => ?_) (fun c => absurd hz c)
      refine lv_iconst (v := nI 0) hx hb dL_law_212 (by decide) ?_
      refine xk_i (y := can) hcz.symm ?_
      refine lv_aload_n hx hb dL_law_213 rfl (lv_at hl 3 rfl) ?_
      have hPx : va_P D vwCl (XW a cI cZ cD sh sw ts bi it tu ne pr so lo (nI t) (nI n) lp lz lu lk ld lf lb lw) H := hP.sub [0, 1, 2, 3, 4, 5, 6, 7, 8, 9, 10, 11, 12, 13, 14, 15, 16] rfl
      have hDx : va_D (fun q => s.heap.size ≤ q) (XW a cI cZ cD sh sw ts bi it tu ne pr so lo (nI t) (nI n) lp lz lu lk ld lf lb lw) := hD.sub [0, 1, 2, 3, 4, 5, 6, 7, 8, 9, 10, 11, 12, 13, 14, 15, 16] (by decide) rfl
      refine va_calli (vx_runSW (As := [.ref (a 0), .int x1, .int can, .ref o9]) (rest := []) ⟨hx, hb, hml, xk_od hown, dr_words hts _⟩ (mL_setSwitchX l hst D cI cZ cD a H sh sw ts bi it tu ne pr so lo (nI t) (nI n) lp lz lu lk ld lf lb lw o9 x1 can hg) (vx_cwSW 4 (dr_words hts _) gL_law_L_setSwitch rfl rfl rfl (by decide +kernel) ⟨Nat.le_of_ble_eq_true rfl, Nat.le_of_ble_eq_true rfl⟩) ⟨zq_blind, zq_pre hPx ((yk_Kd hK).sub [0, 1, 2] rfl) hDx hE.drawn hN.drawn hS hA⟩ rfl rfl hl.1 rfl (lv_room (Nat.le_of_ble_eq_true rfl)) dL_law_214 ⟨(by show _ ≤ 1065; omega), (by show _ ≤ 12181; omega)⟩) hS (fun q h1 h2 => absurd h2 (Nat.not_le.mpr h1)) (fun q h => Nat.le_trans hS.1 h) (fun r u t9 H9 locs ht hvm hwr hB hz1 hk1 hS => ?_)
      have hP : va_P D vwCl (WL o9 o8 cJ a b cI cZ cD sh sw ts bi it tu ne pr so lo (nI t) (nI n) lp lz lu lk ld lf lb lw mth sh mst ts mbi mpr mba (nI t) (nI n) it tu lk mus mud mfs mfb mbo mso mpc mne fo fd) H9 := hP.kept (fun k q hq => hk1 q.1 (hP k q hq).lt (Nat.not_le.mpr (hP k q hq).lt))
      generalize H9 = H at hP hS ⊢
      refine lv_istore (lv' := [(6, .int r), (0, .ref b9), (1, .ref (a 0)), (2, .ref (b 0)), (3, .ref o9), (4, .ref o8), (5, .int (nI (4 * i)))]) hx hb dL_law_217 hl (by decide) rfl (fun ls hl => ?_)
      refine lv_aload_n hx hb dL_law_219 rfl (lv_at hl 3 rfl) ?_
      refine lv_aload_n hx hb dL_law_220 rfl (lv_at hl 1 rfl) ?_
      refine lv_iload hx hb dL_law_221 (lv_at hl 6 rfl) ?_
      refine lv_iconst (v := nI 1) hx hb dL_law_223 (by decide) ?_
      refine lv_iadd hx hb dL_law_224 ?_
      refine xk_i (y := nI (4 * i + 1)) (nI_add _ _) ?_
      refine va_sld hx hb (X_drawn hX) hbl hbA hS (i := nI (4 * i + 1)) (vp_in_nI (by omega) (by omega)) dL_law_225 ?_
      refine xk_i (y := x1) hx1.symm ?_
      refine lv_aload_n hx hb dL_law_226 rfl (lv_at hl 1 rfl) ?_
      refine lv_iload hx hb dL_law_227 (lv_at hl 6 rfl) ?_
      refine lv_iconst (v := nI 2) hx hb dL_law_229 (by decide) ?_
      refine lv_iadd hx hb dL_law_230 ?_
      refine xk_i (y := nI (4 * i + 2)) (nI_add _ _) ?_
      refine va_sld hx hb (X_drawn hX) hbl hbA hS (i := nI (4 * i + 2)) (vp_in_nI (by omega) (by omega)) dL_law_231 ?_
      refine xk_i (y := x2) hx2.symm ?_
      refine lv_if_eq (tgt := 239) hx hb dL_law_232 (by decide) (fun c => ?_) (fun c => absurd hz c)
      refine lv_iconst (v := nI 0) hx hb dL_law_239 (by decide) ?_
      refine xk_i (y := can) hcz.symm ?_
      have hPc : va_P D vwCl (MW b cI cZ cD mth sh mst ts mbi mpr mba (nI t) (nI n) it tu lk mus mud mfs mfb mbo mso mpc mne) H := hP.sub [17, 18, 19, 20, 21, 22, 23, 24, 25, 26, 27, 28, 29, 30, 31, 32] rfl
      have hDc : va_D (fun q => s.heap.size ≤ q) (MW b cI cZ cD mth sh mst ts mbi mpr mba (nI t) (nI n) it tu lk mus mud mfs mfb mbo mso mpc mne) := hD.sub [17, 18, 19, 20, 21, 22, 23, 24, 25, 26, 27, 28, 29, 30, 31, 32] (by decide) rfl
      have hFc := va_free (wc := MW b cI cZ cD mth sh mst ts mbi mpr mba (nI t) (nI n) it tu lk mus mud mfs mfb mbo mso mpc mne) hD hS hA [17, 18, 19, 20, 21, 22, 23, 24, 25, 26, 27, 28, 29, 30, 31, 32] rfl
      refine va_calli (va_runV (As := [.int x1, .int can]) (rest := []) ⟨hx, hb, hml, xk_od hown, dr_words hts _⟩ (mX2_setSwitchX l D cI cZ cD b _ mth sh mst ts mbi mpr mba (nI t) (nI n) it tu lk mus mud mfs mfb mbo mso mpc mne x1 can hg) (cwV 2 (dr_words hts _) gL_law_X2_setSwitch rfl rfl rfl (by decide +kernel) ⟨Nat.le_of_ble_eq_true rfl, Nat.le_of_ble_eq_true rfl⟩) ⟨xk_blind, va_recv (yk_Kd hK) hP (ci := 2) (q0 := 17) rfl rfl, xk_pre hPc ((yk_Kd hK).sub [0, 1, 2] rfl) hDc⟩ rfl rfl hl.1 rfl (lv_room (Nat.le_of_ble_eq_true rfl)) dL_law_240 ⟨(by show _ ≤ 1065; omega), (by show _ ≤ 12181; omega)⟩) hS (fun q _ h => hFc q h) hFc (fun r2 u t9 H locs ht hvm hw hB hz1 hk1 hS => ?_)
      obtain ⟨hP1, -, hD1⟩ := hB
      rw [ht] at hP1
      obtain ⟨hP, hD⟩ := va_join (wr := XW a cI cZ cD sh sw ts bi it tu ne pr so lo (nI t) (nI n) lp lz lu lk ld lf lb lw ++ [(o9, .inl (cJ, 1, .inr (.inl fo))), (o8, .inl (cD, 1, .inr (.inr (.inr (.inl fd)))))]) (w1 := MW b cI cZ cD 1 sh mst ts mbi mpr mba (nI t) (nI n) it tu lk mus mud mfs mfb mbo mso mpc mne) hP hD [17, 18, 19, 20, 21, 22, 23, 24, 25, 26, 27, 28, 29, 30, 31, 32] [0, 1, 2, 3, 4, 5, 6, 7, 8, 9, 10, 11, 12, 13, 14, 15, 16, 33, 34] rfl rfl (by decide) (by decide) hk1 hFc hP1 hD1
      have hP : va_P D vwCl (WL o9 o8 cJ a b cI cZ cD sh sw ts bi it tu ne pr so lo (nI t) (nI n) lp lz lu lk ld lf lb lw 1 sh mst ts mbi mpr mba (nI t) (nI n) it tu lk mus mud mfs mfb mbo mso mpc mne fo fd) H := hP.sub [0, 1, 2, 3, 4, 5, 6, 7, 8, 9, 10, 11, 12, 13, 14, 15, 16, 19, 20, 21, 22, 23, 24, 25, 26, 27, 28, 29, 30, 31, 32, 33, 34, 17, 18] rfl
      have hD : va_D (fun q => s.heap.size ≤ q) (WL o9 o8 cJ a b cI cZ cD sh sw ts bi it tu ne pr so lo (nI t) (nI n) lp lz lu lk ld lf lb lw 1 sh mst ts mbi mpr mba (nI t) (nI n) it tu lk mus mud mfs mfb mbo mso mpc mne fo fd) := hD.sub [0, 1, 2, 3, 4, 5, 6, 7, 8, 9, 10, 11, 12, 13, 14, 15, 16, 19, 20, 21, 22, 23, 24, 25, 26, 27, 28, 29, 30, 31, 32, 33, 34, 17, 18] (by decide) rfl
      refine lv_istore (lv' := [(7, .int r2), (6, .int r), (0, .ref b9), (1, .ref (a 0)), (2, .ref (b 0)), (3, .ref o9), (4, .ref o8), (5, .int (nI (4 * i)))]) hx hb dL_law_243 hl (by decide) rfl (fun ls hl => ?_)
      have hur : 1 = r ∧ ¬ r = 0 := ⟨by rw [hwr], by rw [hwr]; decide⟩
      refine lv_aload_n hx hb dL_law_245 rfl (lv_at hl 4 rfl) ?_
      have hPc : va_P D vwCl (MW b cI cZ cD 1 sh mst ts mbi mpr mba (nI t) (nI n) it tu lk mus mud mfs mfb mbo mso mpc mne) H := hP.sub [17, 18, 19, 20, 21, 22, 23, 24, 25, 26, 27, 28, 29, 30, 31, 32] rfl
      have hDc : va_D (fun q => s.heap.size ≤ q) (MW b cI cZ cD 1 sh mst ts mbi mpr mba (nI t) (nI n) it tu lk mus mud mfs mfb mbo mso mpc mne) := hD.sub [17, 18, 19, 20, 21, 22, 23, 24, 25, 26, 27, 28, 29, 30, 31, 32] (by decide) rfl
      have hFc := va_free (wc := MW b cI cZ cD 1 sh mst ts mbi mpr mba (nI t) (nI n) it tu lk mus mud mfs mfb mbo mso mpc mne) hD hS hA [17, 18, 19, 20, 21, 22, 23, 24, 25, 26, 27, 28, 29, 30, 31, 32] rfl
      refine va_calli (va_runV (As := []) (rest := []) ⟨hx, hb, hml, xk_od hown, dr_words hts _⟩ (mX2_thrown l D cI cZ cD b _ 1 sh mst ts mbi mpr mba (nI t) (nI n) it tu lk mus mud mfs mfb mbo mso mpc mne ) (cwV 0 (dr_words hts _) gL_law_X2_thrown rfl rfl rfl (by decide +kernel) ⟨Nat.le_of_ble_eq_true rfl, Nat.le_of_ble_eq_true rfl⟩) ⟨xk_blind, va_recv (yk_Kd hK) hP (ci := 2) (q0 := 17) rfl rfl, xk_pre hPc ((yk_Kd hK).sub [0, 1, 2] rfl) hDc⟩ rfl rfl hl.1 rfl (lv_room (Nat.le_of_ble_eq_true rfl)) dL_law_246 ⟨(by show _ ≤ 1065; omega), (by show _ ≤ 12181; omega)⟩) hS (fun q _ h => hFc q h) hFc (fun r8 u8 t9 H locs ht hvm hw hB hz1 hk1 hS => ?_)
      obtain ⟨hP1, -, hD1⟩ := hB
      rw [ht] at hP1
      obtain ⟨hP, hD⟩ := va_join (wr := XW a cI cZ cD sh sw ts bi it tu ne pr so lo (nI t) (nI n) lp lz lu lk ld lf lb lw ++ [(o9, .inl (cJ, 1, .inr (.inl fo))), (o8, .inl (cD, 1, .inr (.inr (.inr (.inl fd)))))]) (w1 := MW b cI cZ cD 1 sh mst ts mbi mpr mba (nI t) (nI n) it tu lk mus mud mfs mfb mbo mso mpc mne) hP hD [17, 18, 19, 20, 21, 22, 23, 24, 25, 26, 27, 28, 29, 30, 31, 32] [0, 1, 2, 3, 4, 5, 6, 7, 8, 9, 10, 11, 12, 13, 14, 15, 16, 33, 34] rfl rfl (by decide) (by decide) hk1 hFc hP1 hD1
      have hP : va_P D vwCl (WL o9 o8 cJ a b cI cZ cD sh sw ts bi it tu ne pr so lo (nI t) (nI n) lp lz lu lk ld lf lb lw 1 sh mst ts mbi mpr mba (nI t) (nI n) it tu lk mus mud mfs mfb mbo mso mpc mne fo fd) H := hP.sub [0, 1, 2, 3, 4, 5, 6, 7, 8, 9, 10, 11, 12, 13, 14, 15, 16, 19, 20, 21, 22, 23, 24, 25, 26, 27, 28, 29, 30, 31, 32, 33, 34, 17, 18] rfl
      have hD : va_D (fun q => s.heap.size ≤ q) (WL o9 o8 cJ a b cI cZ cD sh sw ts bi it tu ne pr so lo (nI t) (nI n) lp lz lu lk ld lf lb lw 1 sh mst ts mbi mpr mba (nI t) (nI n) it tu lk mus mud mfs mfb mbo mso mpc mne fo fd) := hD.sub [0, 1, 2, 3, 4, 5, 6, 7, 8, 9, 10, 11, 12, 13, 14, 15, 16, 19, 20, 21, 22, 23, 24, 25, 26, 27, 28, 29, 30, 31, 32, 33, 34, 17, 18] (by decide) rfl
      refine xk_i (y := 1) hw ?_
      refine lv_iload hx hb dL_law_249 (lv_at hl 1 rfl) ?_
      refine lv_icmp_eq (tgt := 256) hx hb dL_law_251 (by decide) (fun c => ?_) (fun c => absurd hur.1 c)
      refine lv_iload hx hb dL_law_256 (lv_at hl 1 rfl) ?_
      refine lv_if_ne (tgt := 280) hx hb dL_law_258 (by decide) (fun c => ?_) (fun c => absurd c hur.2)
      refine lv_goto (tgt := 1232) hx hb dL_law_280 (by decide) ?_
      refine lv_iinc (v := nI (4 * (i + 1))) (lv' := [(5, .int (nI (4 * (i + 1)))), (7, .int r2), (6, .int r), (0, .ref b9), (1, .ref (a 0)), (2, .ref (b 0)), (3, .ref o9), (4, .ref o8)]) hx hb dL_law_1232 hl (k := 7) rfl (iinc4 i) (by decide) rfl (fun ls hl => ?_)
      refine lv_goto (tgt := 28) hx hb dL_law_1235 (by decide) ?_
      refine W.widen (k := 35 + (i + 1)) (n := 3953 + 6 * (i + 1)) (by omega) (by omega) ?_
      exact next _ _ _ _ ⟨n, t, sh, sw, ts, bi, it, tu, ne, pr, so, lo, lp, lz, lu, lk, ld, lf, lb, lw, 1, mst, mbi, mpr, mba, mus, mud, mfs, mfb, mbo, mso, mpc, mne, fo, fd, ⟨hn, ht5, hsm, hsw, hit, hbi, hpr, hso, hlu, hld, hlf, hlz9, hlb, hlw, hlz, hlp⟩, hP, hD, hS, hdl, lv_sub hl [3, 4, 5, 6, 7, 0] rfl⟩
    · skip
      refine lv_aload_n hx hb dL_law_192 rfl (lv_at hl 1 rfl) ?_
      refine lv_aload_n hx hb dL_law_193 rfl (lv_at hl 0 rfl) ?_
      refine lv_iload hx hb dL_law_194 (lv_at hl 5 rfl) ?_
      refine lv_iconst (v := nI 1) hx hb dL_law_196 (by decide) ?_
      refine lv_iadd hx hb dL_law_197 ?_
      refine xk_i (y := nI (4 * i + 1)) (nI_add _ _) ?_
      refine va_sld hx hb (X_drawn hX) hbl hbA hS (i := nI (4 * i + 1)) (vp_in_nI (by omega) (by omega)) dL_law_198 ?_
      refine xk_i (y := x1) hx1.symm ?_
      refine lv_aload_n hx hb dL_law_199 rfl (lv_at hl 0 rfl) ?_
      refine lv_iload hx hb dL_law_200 (lv_at hl 5 rfl) ?_
      refine lv_iconst (v := nI 2) hx hb dL_law_202 (by decide) ?_
      refine lv_iadd hx hb dL_law_203 ?_
      refine xk_i (y := nI (4 * i + 2)) (nI_add _ _) ?_
      refine va_sld hx hb (X_drawn hX) hbl hbA hS (i := nI (4 * i + 2)) (vp_in_nI (by omega) (by omega)) dL_law_204 ?_
      refine xk_i (y := x2) hx2.symm ?_
      refine lv_if_eq (tgt := 212) hx hb dL_law_205 (by decide) (fun c => absurd c hz) (fun c => ?_)
      refine lv_iconst (v := nI 1) hx hb dL_law_208 (by decide) ?_
      refine lv_goto (tgt := 213) hx hb dL_law_209 (by decide) ?_
      refine xk_i (y := can) hcz.symm ?_
      refine lv_aload_n hx hb dL_law_213 rfl (lv_at hl 3 rfl) ?_
      have hPx : va_P D vwCl (XW a cI cZ cD sh sw ts bi it tu ne pr so lo (nI t) (nI n) lp lz lu lk ld lf lb lw) H := hP.sub [0, 1, 2, 3, 4, 5, 6, 7, 8, 9, 10, 11, 12, 13, 14, 15, 16] rfl
      have hDx : va_D (fun q => s.heap.size ≤ q) (XW a cI cZ cD sh sw ts bi it tu ne pr so lo (nI t) (nI n) lp lz lu lk ld lf lb lw) := hD.sub [0, 1, 2, 3, 4, 5, 6, 7, 8, 9, 10, 11, 12, 13, 14, 15, 16] (by decide) rfl
      refine va_calli (vx_runSW (As := [.ref (a 0), .int x1, .int can, .ref o9]) (rest := []) ⟨hx, hb, hml, xk_od hown, dr_words hts _⟩ (mL_setSwitchX l hst D cI cZ cD a H sh sw ts bi it tu ne pr so lo (nI t) (nI n) lp lz lu lk ld lf lb lw o9 x1 can hg) (vx_cwSW 4 (dr_words hts _) gL_law_L_setSwitch rfl rfl rfl (by decide +kernel) ⟨Nat.le_of_ble_eq_true rfl, Nat.le_of_ble_eq_true rfl⟩) ⟨zq_blind, zq_pre hPx ((yk_Kd hK).sub [0, 1, 2] rfl) hDx hE.drawn hN.drawn hS hA⟩ rfl rfl hl.1 rfl (lv_room (Nat.le_of_ble_eq_true rfl)) dL_law_214 ⟨(by show _ ≤ 1065; omega), (by show _ ≤ 12181; omega)⟩) hS (fun q h1 h2 => absurd h2 (Nat.not_le.mpr h1)) (fun q h => Nat.le_trans hS.1 h) (fun r u t9 H9 locs ht hvm hwr hB hz1 hk1 hS => ?_)
      have hP : va_P D vwCl (WL o9 o8 cJ a b cI cZ cD sh sw ts bi it tu ne pr so lo (nI t) (nI n) lp lz lu lk ld lf lb lw mth sh mst ts mbi mpr mba (nI t) (nI n) it tu lk mus mud mfs mfb mbo mso mpc mne fo fd) H9 := hP.kept (fun k q hq => hk1 q.1 (hP k q hq).lt (Nat.not_le.mpr (hP k q hq).lt))
      generalize H9 = H at hP hS ⊢
      refine lv_istore (lv' := [(6, .int r), (0, .ref b9), (1, .ref (a 0)), (2, .ref (b 0)), (3, .ref o9), (4, .ref o8), (5, .int (nI (4 * i)))]) hx hb dL_law_217 hl (by decide) rfl (fun ls hl => ?_)
      refine lv_aload_n hx hb dL_law_219 rfl (lv_at hl 3 rfl) ?_
      refine lv_aload_n hx hb dL_law_220 rfl (lv_at hl 1 rfl) ?_
      refine lv_iload hx hb dL_law_221 (lv_at hl 6 rfl) ?_
      refine lv_iconst (v := nI 1) hx hb dL_law_223 (by decide) ?_
      refine lv_iadd hx hb dL_law_224 ?_
      refine xk_i (y := nI (4 * i + 1)) (nI_add _ _) ?_
      refine va_sld hx hb (X_drawn hX) hbl hbA hS (i := nI (4 * i + 1)) (vp_in_nI (by omega) (by omega)) dL_law_225 ?_
      refine xk_i (y := x1) hx1.symm ?_
      refine lv_aload_n hx hb dL_law_226 rfl (lv_at hl 1 rfl) ?_
      refine lv_iload hx hb dL_law_227 (lv_at hl 6 rfl) ?_
      refine lv_iconst (v := nI 2) hx hb dL_law_229 (by decide) ?_
      refine lv_iadd hx hb dL_law_230 ?_
      refine xk_i (y := nI (4 * i + 2)) (nI_add _ _) ?_
      refine va_sld hx hb (X_drawn hX) hbl hbA hS (i := nI (4 * i + 2)) (vp_in_nI (by omega) (by omega)) dL_law_231 ?_
      refine xk_i (y := x2) hx2.symm ?_
      refine lv_if_eq (tgt := 239) hx hb dL_law_232 (by decide) (fun c => absurd c hz) (fun c => ?_)
      refine lv_iconst (v := nI 1) hx hb dL_law_235 (by decide) ?_
      refine lv_goto (tgt := 240) hx hb dL_law_236 (by decide) ?_
      refine xk_i (y := can) hcz.symm ?_
      have hPc : va_P D vwCl (MW b cI cZ cD mth sh mst ts mbi mpr mba (nI t) (nI n) it tu lk mus mud mfs mfb mbo mso mpc mne) H := hP.sub [17, 18, 19, 20, 21, 22, 23, 24, 25, 26, 27, 28, 29, 30, 31, 32] rfl
      have hDc : va_D (fun q => s.heap.size ≤ q) (MW b cI cZ cD mth sh mst ts mbi mpr mba (nI t) (nI n) it tu lk mus mud mfs mfb mbo mso mpc mne) := hD.sub [17, 18, 19, 20, 21, 22, 23, 24, 25, 26, 27, 28, 29, 30, 31, 32] (by decide) rfl
      have hFc := va_free (wc := MW b cI cZ cD mth sh mst ts mbi mpr mba (nI t) (nI n) it tu lk mus mud mfs mfb mbo mso mpc mne) hD hS hA [17, 18, 19, 20, 21, 22, 23, 24, 25, 26, 27, 28, 29, 30, 31, 32] rfl
      refine va_calli (va_runV (As := [.int x1, .int can]) (rest := []) ⟨hx, hb, hml, xk_od hown, dr_words hts _⟩ (mX2_setSwitchX l D cI cZ cD b _ mth sh mst ts mbi mpr mba (nI t) (nI n) it tu lk mus mud mfs mfb mbo mso mpc mne x1 can hg) (cwV 2 (dr_words hts _) gL_law_X2_setSwitch rfl rfl rfl (by decide +kernel) ⟨Nat.le_of_ble_eq_true rfl, Nat.le_of_ble_eq_true rfl⟩) ⟨xk_blind, va_recv (yk_Kd hK) hP (ci := 2) (q0 := 17) rfl rfl, xk_pre hPc ((yk_Kd hK).sub [0, 1, 2] rfl) hDc⟩ rfl rfl hl.1 rfl (lv_room (Nat.le_of_ble_eq_true rfl)) dL_law_240 ⟨(by show _ ≤ 1065; omega), (by show _ ≤ 12181; omega)⟩) hS (fun q _ h => hFc q h) hFc (fun r2 u t9 H locs ht hvm hw hB hz1 hk1 hS => ?_)
      obtain ⟨hP1, -, hD1⟩ := hB
      rw [ht] at hP1
      obtain ⟨hP, hD⟩ := va_join (wr := XW a cI cZ cD sh sw ts bi it tu ne pr so lo (nI t) (nI n) lp lz lu lk ld lf lb lw ++ [(o9, .inl (cJ, 1, .inr (.inl fo))), (o8, .inl (cD, 1, .inr (.inr (.inr (.inl fd)))))]) (w1 := MW b cI cZ cD 1 sh mst ts mbi mpr mba (nI t) (nI n) it tu lk mus mud mfs mfb mbo mso mpc mne) hP hD [17, 18, 19, 20, 21, 22, 23, 24, 25, 26, 27, 28, 29, 30, 31, 32] [0, 1, 2, 3, 4, 5, 6, 7, 8, 9, 10, 11, 12, 13, 14, 15, 16, 33, 34] rfl rfl (by decide) (by decide) hk1 hFc hP1 hD1
      have hP : va_P D vwCl (WL o9 o8 cJ a b cI cZ cD sh sw ts bi it tu ne pr so lo (nI t) (nI n) lp lz lu lk ld lf lb lw 1 sh mst ts mbi mpr mba (nI t) (nI n) it tu lk mus mud mfs mfb mbo mso mpc mne fo fd) H := hP.sub [0, 1, 2, 3, 4, 5, 6, 7, 8, 9, 10, 11, 12, 13, 14, 15, 16, 19, 20, 21, 22, 23, 24, 25, 26, 27, 28, 29, 30, 31, 32, 33, 34, 17, 18] rfl
      have hD : va_D (fun q => s.heap.size ≤ q) (WL o9 o8 cJ a b cI cZ cD sh sw ts bi it tu ne pr so lo (nI t) (nI n) lp lz lu lk ld lf lb lw 1 sh mst ts mbi mpr mba (nI t) (nI n) it tu lk mus mud mfs mfb mbo mso mpc mne fo fd) := hD.sub [0, 1, 2, 3, 4, 5, 6, 7, 8, 9, 10, 11, 12, 13, 14, 15, 16, 19, 20, 21, 22, 23, 24, 25, 26, 27, 28, 29, 30, 31, 32, 33, 34, 17, 18] (by decide) rfl
      refine lv_istore (lv' := [(7, .int r2), (6, .int r), (0, .ref b9), (1, .ref (a 0)), (2, .ref (b 0)), (3, .ref o9), (4, .ref o8), (5, .int (nI (4 * i)))]) hx hb dL_law_243 hl (by decide) rfl (fun ls hl => ?_)
      have hur : 1 = r ∧ ¬ r = 0 := ⟨by rw [hwr], by rw [hwr]; decide⟩
      refine lv_aload_n hx hb dL_law_245 rfl (lv_at hl 4 rfl) ?_
      have hPc : va_P D vwCl (MW b cI cZ cD 1 sh mst ts mbi mpr mba (nI t) (nI n) it tu lk mus mud mfs mfb mbo mso mpc mne) H := hP.sub [17, 18, 19, 20, 21, 22, 23, 24, 25, 26, 27, 28, 29, 30, 31, 32] rfl
      have hDc : va_D (fun q => s.heap.size ≤ q) (MW b cI cZ cD 1 sh mst ts mbi mpr mba (nI t) (nI n) it tu lk mus mud mfs mfb mbo mso mpc mne) := hD.sub [17, 18, 19, 20, 21, 22, 23, 24, 25, 26, 27, 28, 29, 30, 31, 32] (by decide) rfl
      have hFc := va_free (wc := MW b cI cZ cD 1 sh mst ts mbi mpr mba (nI t) (nI n) it tu lk mus mud mfs mfb mbo mso mpc mne) hD hS hA [17, 18, 19, 20, 21, 22, 23, 24, 25, 26, 27, 28, 29, 30, 31, 32] rfl
      refine va_calli (va_runV (As := []) (rest := []) ⟨hx, hb, hml, xk_od hown, dr_words hts _⟩ (mX2_thrown l D cI cZ cD b _ 1 sh mst ts mbi mpr mba (nI t) (nI n) it tu lk mus mud mfs mfb mbo mso mpc mne ) (cwV 0 (dr_words hts _) gL_law_X2_thrown rfl rfl rfl (by decide +kernel) ⟨Nat.le_of_ble_eq_true rfl, Nat.le_of_ble_eq_true rfl⟩) ⟨xk_blind, va_recv (yk_Kd hK) hP (ci := 2) (q0 := 17) rfl rfl, xk_pre hPc ((yk_Kd hK).sub [0, 1, 2] rfl) hDc⟩ rfl rfl hl.1 rfl (lv_room (Nat.le_of_ble_eq_true rfl)) dL_law_246 ⟨(by show _ ≤ 1065; omega), (by show _ ≤ 12181; omega)⟩) hS (fun q _ h => hFc q h) hFc (fun r8 u8 t9 H locs ht hvm hw hB hz1 hk1 hS => ?_)
      obtain ⟨hP1, -, hD1⟩ := hB
      rw [ht] at hP1
      obtain ⟨hP, hD⟩ := va_join (wr := XW a cI cZ cD sh sw ts bi it tu ne pr so lo (nI t) (nI n) lp lz lu lk ld lf lb lw ++ [(o9, .inl (cJ, 1, .inr (.inl fo))), (o8, .inl (cD, 1, .inr (.inr (.inr (.inl fd)))))]) (w1 := MW b cI cZ cD 1 sh mst ts mbi mpr mba (nI t) (nI n) it tu lk mus mud mfs mfb mbo mso mpc mne) hP hD [17, 18, 19, 20, 21, 22, 23, 24, 25, 26, 27, 28, 29, 30, 31, 32] [0, 1, 2, 3, 4, 5, 6, 7, 8, 9, 10, 11, 12, 13, 14, 15, 16, 33, 34] rfl rfl (by decide) (by decide) hk1 hFc hP1 hD1
      have hP : va_P D vwCl (WL o9 o8 cJ a b cI cZ cD sh sw ts bi it tu ne pr so lo (nI t) (nI n) lp lz lu lk ld lf lb lw 1 sh mst ts mbi mpr mba (nI t) (nI n) it tu lk mus mud mfs mfb mbo mso mpc mne fo fd) H := hP.sub [0, 1, 2, 3, 4, 5, 6, 7, 8, 9, 10, 11, 12, 13, 14, 15, 16, 19, 20, 21, 22, 23, 24, 25, 26, 27, 28, 29, 30, 31, 32, 33, 34, 17, 18] rfl
      have hD : va_D (fun q => s.heap.size ≤ q) (WL o9 o8 cJ a b cI cZ cD sh sw ts bi it tu ne pr so lo (nI t) (nI n) lp lz lu lk ld lf lb lw 1 sh mst ts mbi mpr mba (nI t) (nI n) it tu lk mus mud mfs mfb mbo mso mpc mne fo fd) := hD.sub [0, 1, 2, 3, 4, 5, 6, 7, 8, 9, 10, 11, 12, 13, 14, 15, 16, 19, 20, 21, 22, 23, 24, 25, 26, 27, 28, 29, 30, 31, 32, 33, 34, 17, 18] (by decide) rfl
      refine xk_i (y := 1) hw ?_
      refine lv_iload hx hb dL_law_249 (lv_at hl 1 rfl) ?_
      refine lv_icmp_eq (tgt := 256) hx hb dL_law_251 (by decide) (fun c => ?_) (fun c => absurd hur.1 c)
      refine lv_iload hx hb dL_law_256 (lv_at hl 1 rfl) ?_
      refine lv_if_ne (tgt := 280) hx hb dL_law_258 (by decide) (fun c => ?_) (fun c => absurd c hur.2)
      refine lv_goto (tgt := 1232) hx hb dL_law_280 (by decide) ?_
      refine lv_iinc (v := nI (4 * (i + 1))) (lv' := [(5, .int (nI (4 * (i + 1)))), (7, .int r2), (6, .int r), (0, .ref b9), (1, .ref (a 0)), (2, .ref (b 0)), (3, .ref o9), (4, .ref o8)]) hx hb dL_law_1232 hl (k := 7) rfl (iinc4 i) (by decide) rfl (fun ls hl => ?_)
      refine lv_goto (tgt := 28) hx hb dL_law_1235 (by decide) ?_
      refine W.widen (k := 35 + (i + 1)) (n := 3953 + 6 * (i + 1)) (by omega) (by omega) ?_
      exact next _ _ _ _ ⟨n, t, sh, sw, ts, bi, it, tu, ne, pr, so, lo, lp, lz, lu, lk, ld, lf, lb, lw, 1, mst, mbi, mpr, mba, mus, mud, mfs, mfb, mbo, mso, mpc, mne, fo, fd, ⟨hn, ht5, hsm, hsw, hit, hbi, hpr, hso, hlu, hld, hlf, hlz9, hlb, hlw, hlz, hlp⟩, hP, hD, hS, hdl, lv_sub hl [3, 4, 5, 6, 7, 0] rfl⟩
set_option maxHeartbeats 4000000 in
set_option maxRecDepth 100000 in
theorem ls_4 {p : Program} {l : Launch} {e : Env} {s : State} {m : MethodId} {below : List Frame} {meth : Method} {c : Code} {b9 L : Nat} {xs : Nat → Int32} {D : va_G} {cI cZ cD cJ : ClassId} (C : LC l p s m meth c b9 L xs D cI cZ cD cJ) {a b : Nat → Nat} {o9 o8 i : Nat} (hi4 : 4 * i + 4 ≤ L) {H : Heap} {locs : List Loc} {ls : Array Slot} {d : Drawn} (hI : LInv s D cI cZ cD cJ a b b9 o9 o8 i H locs ls d) (next : ∀ (H' : Heap) (locs' : List Loc) (ls' : Array Slot) (d' : Drawn), LInv s D cI cZ cD cJ a b b9 o9 o8 (i + 1) H' locs' ls' d' → W p l e room_1 (s.setDrawn d') m #[Value.ref b9] below meth c H' locs' (35 + (i + 1)) (3953 + 6 * (i + 1)) (lw_Z below #[Value.ref b9] s) (F0 m 28 ls' [])) : W p l e room_1 (s.setDrawn d) m #[Value.ref b9] below meth c H locs (35 + i) (3953 + 6 * i) (lw_Z below #[Value.ref b9] s) (F0 m 435 ls []) := by
  obtain ⟨hst, hL, C0, hE, hN, hK⟩ := C
  obtain ⟨hx, hb, hr, hml, hown, hts0, hX, hbl, hlocks, hgv⟩ := C0
  have hts : ∀ w ∈ wsL_law, w.before #[Value.ref b9] s = true := fun w h => hts0 w (wsL_law_in w h)
  obtain ⟨n, t, sh, sw, ts, bi, it, tu, ne, pr, so, lo, lp, lz, lu, lk, ld, lf, lb, lw, mth, mst, mbi, mpr, mba, mus, mud, mfs, mfb, mbo, mso, mpc, mne, fo, fd, ⟨hn, ht5, hsm, hsw, hit, hbi, hpr, hso, hlu, hld, hlf, hlz9, hlb, hlw, hlz, hlp⟩, hP, hD, hS, hdl, hl⟩ := hI
  have hA : ∀ q : Nat, s.heap.size ≤ q → (fun q => s.heap.size ≤ q) q := fun q h => h
  have hbA : ¬ (fun q => s.heap.size ≤ q) b9 := Nat.not_le.mpr hbl
  obtain ⟨x1, hx1⟩ : ∃ x, x = xs (nI (4 * i + 1)).toNatClampNeg := ⟨_, rfl⟩
  by_cases hg : inR x1 0 100 ∧ n < 60
  · skip
    obtain ⟨g1, hn60⟩ := hg
    refine lv_aload_n hx hb dL_law_435 rfl (lv_at hl 1 rfl) ?_
    refine lv_aload_n hx hb dL_law_436 rfl (lv_at hl 0 rfl) ?_
    refine lv_iload hx hb dL_law_437 (lv_at hl 5 rfl) ?_
    refine lv_iconst (v := nI 1) hx hb dL_law_439 (by decide) ?_
    refine lv_iadd hx hb dL_law_440 ?_
    refine xk_i (y := nI (4 * i + 1)) (nI_add _ _) ?_
    refine va_sld hx hb (X_drawn hX) hbl hbA hS (i := nI (4 * i + 1)) (vp_in_nI (by omega) (by omega)) dL_law_441 ?_
    refine xk_i (y := x1) hx1.symm ?_
    refine lv_aload_n hx hb dL_law_442 rfl (lv_at hl 3 rfl) ?_
    have hPc : va_P D vwCl (XWJ o9 cJ a cI cZ cD sh sw ts bi it tu ne pr so lo (nI t) (nI n) lp lz lu lk ld lf lb lw fo) H := hP.sub [0, 1, 2, 3, 4, 5, 6, 7, 8, 9, 10, 11, 12, 13, 14, 15, 16, 33] rfl
    have hDc : va_D (fun q => s.heap.size ≤ q) (XWJ o9 cJ a cI cZ cD sh sw ts bi it tu ne pr so lo (nI t) (nI n) lp lz lu lk ld lf lb lw fo) := hD.sub [0, 1, 2, 3, 4, 5, 6, 7, 8, 9, 10, 11, 12, 13, 14, 15, 16, 33] (by decide) rfl
    have hFc := va_free (wc := XWJ o9 cJ a cI cZ cD sh sw ts bi it tu ne pr so lo (nI t) (nI n) lp lz lu lk ld lf lb lw fo) hD hS hA [0, 1, 2, 3, 4, 5, 6, 7, 8, 9, 10, 11, 12, 13, 14, 15, 16, 33] rfl
    refine va_calliD hdl (xd_runSX (As := [.ref (a 0), .int x1, .ref o9]) (rest := []) ⟨hx, hb, hml, xk_od hown, dr_words hts _⟩ (mL_closeV l D cI cZ cD cJ a o9 _ sh sw ts bi it tu ne pr so lo lp lz lu lk ld lf lb lw fo n t x1 hn60 ht5 g1 hit) (vx_cwSW 3 (dr_words hts _) gL_law_L_close rfl rfl rfl (by decide +kernel) ⟨Nat.le_of_ble_eq_true rfl, Nat.le_of_ble_eq_true rfl⟩) ⟨yk_blind, yk_pre hPc (yk_Kd hK) hDc⟩ rfl rfl hl.1 rfl (lv_room (Nat.le_of_ble_eq_true rfl)) dL_law_443 ⟨(by show _ ≤ 1065; omega), (by show _ ≤ 12181; omega)⟩) hS (fun q _ h => hFc q h) hFc (fun r u t9 H locs ht hvm hw hB hz1 hk1 hS _ hd1 => ?_)
    obtain ⟨⟨⟨z1, z2, z3, z4⟩, ⟨z5, z6, z7, z8⟩, ⟨z9, z10, z11, z12⟩⟩, fo1⟩ := u
    obtain ⟨rfl, hv1, hv2⟩ := hw
    dsimp only at hv1 hv2
    obtain ⟨hP1, -, hD1⟩ := hB
    rw [ht] at hP1
    obtain ⟨hP, hD⟩ := va_join (wr := MW b cI cZ cD mth sh mst ts mbi mpr mba (nI t) (nI n) it tu lk mus mud mfs mfb mbo mso mpc mne ++ [(o8, .inl (cD, 1, .inr (.inr (.inr (.inl fd)))))]) (w1 := XWJ o9 cJ a cI cZ cD sh sw z1 z12 (po 0 5 it (fun _ => 0)) tu z3 pr z7 z4 (nI z10) (nI (n + 1)) (vf_upd lp n pr) z8 z2 (po (5 * n) 5 lk it) z5 z6 z9 z11 fo1) hP hD [0, 1, 2, 3, 4, 5, 6, 7, 8, 9, 10, 11, 12, 13, 14, 15, 16, 33] [17, 18, 19, 20, 21, 22, 23, 24, 25, 26, 27, 28, 29, 30, 31, 32, 34] rfl rfl (by decide) (by decide) hk1 hFc hP1 hD1
    have hP : va_P D vwCl (WL o9 o8 cJ a b cI cZ cD sh sw z1 z12 (po 0 5 it (fun _ => 0)) tu z3 pr z7 z4 (nI z10) (nI (n + 1)) (vf_upd lp n pr) z8 z2 (po (5 * n) 5 lk it) z5 z6 z9 z11 mth sh mst ts mbi mpr mba (nI t) (nI n) it tu lk mus mud mfs mfb mbo mso mpc mne fo1 fd) H := hP.sub [17, 18, 19, 20, 21, 22, 23, 24, 25, 26, 27, 28, 29, 30, 31, 32, 33, 0, 1, 2, 3, 4, 5, 6, 7, 8, 9, 10, 11, 12, 13, 14, 15, 34, 16] rfl
    have hD : va_D (fun q => s.heap.size ≤ q) (WL o9 o8 cJ a b cI cZ cD sh sw z1 z12 (po 0 5 it (fun _ => 0)) tu z3 pr z7 z4 (nI z10) (nI (n + 1)) (vf_upd lp n pr) z8 z2 (po (5 * n) 5 lk it) z5 z6 z9 z11 mth sh mst ts mbi mpr mba (nI t) (nI n) it tu lk mus mud mfs mfb mbo mso mpc mne fo1 fd) := hD.sub [17, 18, 19, 20, 21, 22, 23, 24, 25, 26, 27, 28, 29, 30, 31, 32, 33, 0, 1, 2, 3, 4, 5, 6, 7, 8, 9, 10, 11, 12, 13, 14, 15, 34, 16] (by decide) rfl
    obtain ⟨c1, c2, c3, c4, c5, c6, c7, c8, c9, c10⟩ := hv2
    refine lv_istore (lv' := [(6, .int 0), (0, .ref b9), (1, .ref (a 0)), (2, .ref (b 0)), (3, .ref o9), (4, .ref o8), (5, .int (nI (4 * i)))]) hx hb dL_law_446 hl (by decide) rfl (fun ls hl => ?_)
    refine lv_aload_n hx hb dL_law_448 rfl (lv_at hl 3 rfl) ?_
    refine lv_aload_n hx hb dL_law_449 rfl (lv_at hl 1 rfl) ?_
    refine lv_iload hx hb dL_law_450 (lv_at hl 6 rfl) ?_
    refine lv_iconst (v := nI 1) hx hb dL_law_452 (by decide) ?_
    refine lv_iadd hx hb dL_law_453 ?_
    refine xk_i (y := nI (4 * i + 1)) (nI_add _ _) ?_
    refine va_sld hx hb (X_drawn hX) hbl hbA hS (i := nI (4 * i + 1)) (vp_in_nI (by omega) (by omega)) dL_law_454 ?_
    refine xk_i (y := x1) hx1.symm ?_
    have hPc : va_P D vwCl (MW b cI cZ cD mth sh mst ts mbi mpr mba (nI t) (nI n) it tu lk mus mud mfs mfb mbo mso mpc mne) H := hP.sub [17, 18, 19, 20, 21, 22, 23, 24, 25, 26, 27, 28, 29, 30, 31, 32] rfl
    have hDc : va_D (fun q => s.heap.size ≤ q) (MW b cI cZ cD mth sh mst ts mbi mpr mba (nI t) (nI n) it tu lk mus mud mfs mfb mbo mso mpc mne) := hD.sub [17, 18, 19, 20, 21, 22, 23, 24, 25, 26, 27, 28, 29, 30, 31, 32] (by decide) rfl
    have hFc := va_free (wc := MW b cI cZ cD mth sh mst ts mbi mpr mba (nI t) (nI n) it tu lk mus mud mfs mfb mbo mso mpc mne) hD hS hA [17, 18, 19, 20, 21, 22, 23, 24, 25, 26, 27, 28, 29, 30, 31, 32] rfl
    refine va_calliD hd1 (va_runV_D (As := [.int x1]) (rest := []) ⟨hx, hb, hml, xk_od hown, dr_words hts _⟩ (mX2_closeV l D cI cZ cD b _ mth sh mst ts mbi mpr mba it tu lk mus mud mfs mfb mbo mso mpc mne n t x1 hn60 ht5 g1 hit sw (fun k hk => by rw [hsm k hk]; exact bI_0)) (cwV 1 (dr_words hts _) gL_law_X2_close rfl rfl rfl (by decide +kernel) ⟨Nat.le_of_ble_eq_true rfl, Nat.le_of_ble_eq_true rfl⟩) ⟨xk_blind, va_recv (yk_Kd hK) hP (ci := 2) (q0 := 17) rfl rfl, xk_pre hPc ((yk_Kd hK).sub [0, 1, 2] rfl) hDc⟩ rfl rfl hl.1 rfl (lv_room (Nat.le_of_ble_eq_true rfl)) dL_law_455 ⟨(by show _ ≤ 1065; omega), (by show _ ≤ 12181; omega)⟩) hS (fun q _ h => hFc q h) hFc (fun r2 u t9 H locs ht hvm hw hB hz1 hk1 hS _ hd2 => ?_)
    obtain ⟨⟨y1, y2, y3, y4⟩, ⟨y5, y6, y7⟩, ⟨y8, y9, y10, y11⟩⟩ := u
    obtain ⟨hP1, -, hD1⟩ := hB
    rw [ht] at hP1
    obtain ⟨hP, hD⟩ := va_join (wr := XW a cI cZ cD sh sw z1 z12 (po 0 5 it (fun _ => 0)) tu z3 pr z7 z4 (nI z10) (nI (n + 1)) (vf_upd lp n pr) z8 z2 (po (5 * n) 5 lk it) z5 z6 z9 z11 ++ [(o9, .inl (cJ, 1, .inr (.inl fo1))), (o8, .inl (cD, 1, .inr (.inr (.inr (.inl fd)))))]) (w1 := MW b cI cZ cD 0 sh mst y1 y11 mpr y6 (nI y9) (nI (n + 1)) (po 0 5 it (fun _ => 0)) tu (po (5 * n) 5 lk it) y2 y3 y5 y8 y10 y7 (vf_upd mpc n mpr) y4) hP hD [17, 18, 19, 20, 21, 22, 23, 24, 25, 26, 27, 28, 29, 30, 31, 32] [0, 1, 2, 3, 4, 5, 6, 7, 8, 9, 10, 11, 12, 13, 14, 15, 16, 33, 34] rfl rfl (by decide) (by decide) hk1 hFc hP1 hD1
    have hP : va_P D vwCl (WL o9 o8 cJ a b cI cZ cD sh sw z1 z12 (po 0 5 it (fun _ => 0)) tu z3 pr z7 z4 (nI z10) (nI (n + 1)) (vf_upd lp n pr) z8 z2 (po (5 * n) 5 lk it) z5 z6 z9 z11 0 sh mst y1 y11 mpr y6 (nI y9) (nI (n + 1)) (po 0 5 it (fun _ => 0)) tu (po (5 * n) 5 lk it) y2 y3 y5 y8 y10 y7 (vf_upd mpc n mpr) y4 fo1 fd) H := hP.sub [0, 1, 2, 3, 4, 5, 6, 7, 8, 9, 10, 11, 12, 13, 14, 15, 16, 19, 20, 21, 22, 23, 24, 25, 26, 27, 28, 29, 30, 31, 32, 33, 34, 17, 18] rfl
    have hD : va_D (fun q => s.heap.size ≤ q) (WL o9 o8 cJ a b cI cZ cD sh sw z1 z12 (po 0 5 it (fun _ => 0)) tu z3 pr z7 z4 (nI z10) (nI (n + 1)) (vf_upd lp n pr) z8 z2 (po (5 * n) 5 lk it) z5 z6 z9 z11 0 sh mst y1 y11 mpr y6 (nI y9) (nI (n + 1)) (po 0 5 it (fun _ => 0)) tu (po (5 * n) 5 lk it) y2 y3 y5 y8 y10 y7 (vf_upd mpc n mpr) y4 fo1 fd) := hD.sub [0, 1, 2, 3, 4, 5, 6, 7, 8, 9, 10, 11, 12, 13, 14, 15, 16, 19, 20, 21, 22, 23, 24, 25, 26, 27, 28, 29, 30, 31, 32, 33, 34, 17, 18] (by decide) rfl
    obtain ⟨hm0, hm1, hm2, hm3, hm4, hm5, hm6, hm7, hm8, hm9, hm10⟩ := hw
    dsimp only at hm1 hm2 hm3 hm4 hm5 hm6 hm7 hm8 hm9 hm10
    rw [← hlu] at hm0
    rw [← hlu] at hm1
    rw [← hlu] at hm2
    rw [← hlu, ← hld] at hm3
    rw [← hlu] at hm4
    rw [← hlu, ← hso, ← hlz] at hm5
    rw [← hlu, ← hso, ← hlb] at hm6
    rw [← hlu, ← hso, ← hlb] at hm7
    rw [← hlu, ← hso, ← hlb] at hm8
    rw [← hlu, ← hso, ← hlb, ← hlw] at hm9
    rw [← hlu, ← hso, ← hlz, ← hbi, ← hpr, ← hlb] at hm10
    obtain rfl : y1 = z1 := hm1.trans c1.symm
    obtain rfl : y9 = z10 := hm8.trans c8.symm
    have hVok : ∀ k, k < 5 → dOk ((cT sw ts it tu lk (dts lu) n).2 k) := fun k hk => ⟨z5 (5 * n + k), by have h9 := congrFun c3 (5 * n + k); rw [po_in _ _ hk] at h9; exact h9⟩
    have hkF := kF_rel (sun := x1) (sh := sh) hVok hlf hlz9
    subst hm0
    refine lv_istore (lv' := [(7, .int (bI (over ((cT sw ts it tu lk (dts lu) n).2)))), (6, .int 0), (0, .ref b9), (1, .ref (a 0)), (2, .ref (b 0)), (3, .ref o9), (4, .ref o8), (5, .int (nI (4 * i)))]) hx hb dL_law_458 hl (by decide) rfl (fun ls hl => ?_)
    refine lv_aload_n hx hb dL_law_460 rfl (lv_at hl 4 rfl) ?_
    have hPc : va_P D vwCl (MW b cI cZ cD 0 sh mst y1 y11 mpr y6 (nI y9) (nI (n + 1)) (po 0 5 it (fun _ => 0)) tu (po (5 * n) 5 lk it) y2 y3 y5 y8 y10 y7 (vf_upd mpc n mpr) y4) H := hP.sub [17, 18, 19, 20, 21, 22, 23, 24, 25, 26, 27, 28, 29, 30, 31, 32] rfl
    have hDc : va_D (fun q => s.heap.size ≤ q) (MW b cI cZ cD 0 sh mst y1 y11 mpr y6 (nI y9) (nI (n + 1)) (po 0 5 it (fun _ => 0)) tu (po (5 * n) 5 lk it) y2 y3 y5 y8 y10 y7 (vf_upd mpc n mpr) y4) := hD.sub [17, 18, 19, 20, 21, 22, 23, 24, 25, 26, 27, 28, 29, 30, 31, 32] (by decide) rfl
    have hFc := va_free (wc := MW b cI cZ cD 0 sh mst y1 y11 mpr y6 (nI y9) (nI (n + 1)) (po 0 5 it (fun _ => 0)) tu (po (5 * n) 5 lk it) y2 y3 y5 y8 y10 y7 (vf_upd mpc n mpr) y4) hD hS hA [17, 18, 19, 20, 21, 22, 23, 24, 25, 26, 27, 28, 29, 30, 31, 32] rfl
    refine va_calli (va_runV (As := []) (rest := []) ⟨hx, hb, hml, xk_od hown, dr_words hts _⟩ (mX2_thrown l D cI cZ cD b _ 0 sh mst y1 y11 mpr y6 (nI y9) (nI (n + 1)) (po 0 5 it (fun _ => 0)) tu (po (5 * n) 5 lk it) y2 y3 y5 y8 y10 y7 (vf_upd mpc n mpr) y4 ) (cwV 0 (dr_words hts _) gL_law_X2_thrown rfl rfl rfl (by decide +kernel) ⟨Nat.le_of_ble_eq_true rfl, Nat.le_of_ble_eq_true rfl⟩) ⟨xk_blind, va_recv (yk_Kd hK) hP (ci := 2) (q0 := 17) rfl rfl, xk_pre hPc ((yk_Kd hK).sub [0, 1, 2] rfl) hDc⟩ rfl rfl hl.1 rfl (lv_room (Nat.le_of_ble_eq_true rfl)) dL_law_461 ⟨(by show _ ≤ 1065; omega), (by show _ ≤ 12181; omega)⟩) hS (fun q _ h => hFc q h) hFc (fun r8 u8 t9 H locs ht hvm hw hB hz1 hk1 hS => ?_)
    obtain ⟨hP1, -, hD1⟩ := hB
    rw [ht] at hP1
    obtain ⟨hP, hD⟩ := va_join (wr := XW a cI cZ cD sh sw y1 z12 (po 0 5 it (fun _ => 0)) tu z3 pr z7 z4 (nI y9) (nI (n + 1)) (vf_upd lp n pr) z8 z2 (po (5 * n) 5 lk it) z5 z6 z9 z11 ++ [(o9, .inl (cJ, 1, .inr (.inl fo1))), (o8, .inl (cD, 1, .inr (.inr (.inr (.inl fd)))))]) (w1 := MW b cI cZ cD 0 sh mst y1 y11 mpr y6 (nI y9) (nI (n + 1)) (po 0 5 it (fun _ => 0)) tu (po (5 * n) 5 lk it) y2 y3 y5 y8 y10 y7 (vf_upd mpc n mpr) y4) hP hD [17, 18, 19, 20, 21, 22, 23, 24, 25, 26, 27, 28, 29, 30, 31, 32] [0, 1, 2, 3, 4, 5, 6, 7, 8, 9, 10, 11, 12, 13, 14, 15, 16, 33, 34] rfl rfl (by decide) (by decide) hk1 hFc hP1 hD1
    have hP : va_P D vwCl (WL o9 o8 cJ a b cI cZ cD sh sw y1 z12 (po 0 5 it (fun _ => 0)) tu z3 pr z7 z4 (nI y9) (nI (n + 1)) (vf_upd lp n pr) z8 z2 (po (5 * n) 5 lk it) z5 z6 z9 z11 0 sh mst y1 y11 mpr y6 (nI y9) (nI (n + 1)) (po 0 5 it (fun _ => 0)) tu (po (5 * n) 5 lk it) y2 y3 y5 y8 y10 y7 (vf_upd mpc n mpr) y4 fo1 fd) H := hP.sub [0, 1, 2, 3, 4, 5, 6, 7, 8, 9, 10, 11, 12, 13, 14, 15, 16, 19, 20, 21, 22, 23, 24, 25, 26, 27, 28, 29, 30, 31, 32, 33, 34, 17, 18] rfl
    have hD : va_D (fun q => s.heap.size ≤ q) (WL o9 o8 cJ a b cI cZ cD sh sw y1 z12 (po 0 5 it (fun _ => 0)) tu z3 pr z7 z4 (nI y9) (nI (n + 1)) (vf_upd lp n pr) z8 z2 (po (5 * n) 5 lk it) z5 z6 z9 z11 0 sh mst y1 y11 mpr y6 (nI y9) (nI (n + 1)) (po 0 5 it (fun _ => 0)) tu (po (5 * n) 5 lk it) y2 y3 y5 y8 y10 y7 (vf_upd mpc n mpr) y4 fo1 fd) := hD.sub [0, 1, 2, 3, 4, 5, 6, 7, 8, 9, 10, 11, 12, 13, 14, 15, 16, 19, 20, 21, 22, 23, 24, 25, 26, 27, 28, 29, 30, 31, 32, 33, 34, 17, 18] (by decide) rfl
    refine xk_i (y := 0) hw ?_
    refine lv_iload hx hb dL_law_464 (lv_at hl 1 rfl) ?_
    refine lv_icmp_eq (tgt := 471) hx hb dL_law_466 (by decide) (fun c => ?_) (fun c => absurd rfl c)
    refine lv_iload hx hb dL_law_471 (lv_at hl 1 rfl) ?_
    refine lv_if_ne (tgt := 495) hx hb dL_law_473 (by decide) (fun c => absurd rfl c) (fun c => ?_)
    refine lv_aload_n hx hb dL_law_476 rfl (lv_at hl 5 rfl) ?_
    refine lv_iconst (v := nI 0) hx hb dL_law_477 (by decide) ?_
    refine va_lald hx hb (yk_Kd hK) hP 33 3 rfl rfl (i := nI 0) (vp_in_nI (by decide) (by decide)) dL_law_478 ?_
    refine xk_l (y := bL (bI (over ((cT sw ts it tu lk (dts lu) n).2)))) hv1 ?_
    refine lv_iload hx hb dL_law_479 (lv_at hl 0 rfl) ?_
    refine lv_if_eq (tgt := 488) hx hb dL_law_481 (by decide) (fun c => ?_) (fun c => ?_)
    · skip
      have eb : bL (bI (over ((cT sw ts it tu lk (dts lu) n).2))) = 0 := if_pos c
      refine lv_lconst (v := 0) hx hb dL_law_488 (by decide) ?_
      refine W.lcmp hx hb dL_law_489 ?_
      refine xk_i (y := 0) (by rw [eb]; exact lcmp_self _) ?_
      refine lv_if_eq (tgt := 495) hx hb dL_law_490 (by decide) (fun c => ?_) (fun c => absurd rfl c)
      refine lv_goto (tgt := 1232) hx hb dL_law_495 (by decide) ?_
      refine lv_iinc (v := nI (4 * (i + 1))) (lv' := [(5, .int (nI (4 * (i + 1)))), (7, .int (bI (over ((cT sw ts it tu lk (dts lu) n).2)))), (6, .int 0), (0, .ref b9), (1, .ref (a 0)), (2, .ref (b 0)), (3, .ref o9), (4, .ref o8)]) hx hb dL_law_1232 hl (k := 7) rfl (iinc4 i) (by decide) rfl (fun ls hl => ?_)
      refine lv_goto (tgt := 28) hx hb dL_law_1235 (by decide) ?_
      refine W.widen (k := 35 + (i + 1)) (n := 3953 + 6 * (i + 1)) (by omega) (by omega) ?_
      exact next _ _ _ _ ⟨(n + 1), y9, sh, sw, y1, z12, po 0 5 it (fun _ => 0), tu, z3, pr, z7, z4, vf_upd lp n pr, z8, z2, po (5 * n) 5 lk it, z5, z6, z9, z11, 0, mst, y11, mpr, y6, y2, y3, y5, y8, y10, y7, vf_upd mpc n mpr, y4, fo1, fd, ⟨(show n + 1 ≤ 60 by omega), (by rw [c8]; exact kB_t ht5), hsm, hsw, po01 hit 5, c10.trans hm10.symm, hpr, c6.trans hm6.symm, c2.trans hm2.symm, c3.trans hm3.symm, (by rw [c4, hm4]; exact hkF.1), (by rw [c4]; exact hkF.2), c7.trans hm7.symm, c9.trans hm9.symm, c5.trans hm5.symm, (by rw [dts_up, dts_up, hlp, hpr])⟩, hP, hD, hS, hd2, lv_sub hl [3, 4, 5, 6, 7, 0] rfl⟩
    · skip
      have eb : bL (bI (over ((cT sw ts it tu lk (dts lu) n).2))) = 1 := if_neg c
      refine lv_lconst (v := 1) hx hb dL_law_484 (by decide) ?_
      refine lv_goto (tgt := 489) hx hb dL_law_485 (by decide) ?_
      refine W.lcmp hx hb dL_law_489 ?_
      refine xk_i (y := 0) (by rw [eb]; exact lcmp_self _) ?_
      refine lv_if_eq (tgt := 495) hx hb dL_law_490 (by decide) (fun c => ?_) (fun c => absurd rfl c)
      refine lv_goto (tgt := 1232) hx hb dL_law_495 (by decide) ?_
      refine lv_iinc (v := nI (4 * (i + 1))) (lv' := [(5, .int (nI (4 * (i + 1)))), (7, .int (bI (over ((cT sw ts it tu lk (dts lu) n).2)))), (6, .int 0), (0, .ref b9), (1, .ref (a 0)), (2, .ref (b 0)), (3, .ref o9), (4, .ref o8)]) hx hb dL_law_1232 hl (k := 7) rfl (iinc4 i) (by decide) rfl (fun ls hl => ?_)
      refine lv_goto (tgt := 28) hx hb dL_law_1235 (by decide) ?_
      refine W.widen (k := 35 + (i + 1)) (n := 3953 + 6 * (i + 1)) (by omega) (by omega) ?_
      exact next _ _ _ _ ⟨(n + 1), y9, sh, sw, y1, z12, po 0 5 it (fun _ => 0), tu, z3, pr, z7, z4, vf_upd lp n pr, z8, z2, po (5 * n) 5 lk it, z5, z6, z9, z11, 0, mst, y11, mpr, y6, y2, y3, y5, y8, y10, y7, vf_upd mpc n mpr, y4, fo1, fd, ⟨(show n + 1 ≤ 60 by omega), (by rw [c8]; exact kB_t ht5), hsm, hsw, po01 hit 5, c10.trans hm10.symm, hpr, c6.trans hm6.symm, c2.trans hm2.symm, c3.trans hm3.symm, (by rw [c4, hm4]; exact hkF.1), (by rw [c4]; exact hkF.2), c7.trans hm7.symm, c9.trans hm9.symm, c5.trans hm5.symm, (by rw [dts_up, dts_up, hlp, hpr])⟩, hP, hD, hS, hd2, lv_sub hl [3, 4, 5, 6, 7, 0] rfl⟩
  · skip
    refine lv_aload_n hx hb dL_law_435 rfl (lv_at hl 1 rfl) ?_
    refine lv_aload_n hx hb dL_law_436 rfl (lv_at hl 0 rfl) ?_
    refine lv_iload hx hb dL_law_437 (lv_at hl 5 rfl) ?_
    refine lv_iconst (v := nI 1) hx hb dL_law_439 (by decide) ?_
    refine lv_iadd hx hb dL_law_440 ?_
    refine xk_i (y := nI (4 * i + 1)) (nI_add _ _) ?_
    refine va_sld hx hb (X_drawn hX) hbl hbA hS (i := nI (4 * i + 1)) (vp_in_nI (by omega) (by omega)) dL_law_441 ?_
    refine xk_i (y := x1) hx1.symm ?_
    refine lv_aload_n hx hb dL_law_442 rfl (lv_at hl 3 rfl) ?_
    have hPx : va_P D vwCl (XW a cI cZ cD sh sw ts bi it tu ne pr so lo (nI t) (nI n) lp lz lu lk ld lf lb lw) H := hP.sub [0, 1, 2, 3, 4, 5, 6, 7, 8, 9, 10, 11, 12, 13, 14, 15, 16] rfl
    have hDx : va_D (fun q => s.heap.size ≤ q) (XW a cI cZ cD sh sw ts bi it tu ne pr so lo (nI t) (nI n) lp lz lu lk ld lf lb lw) := hD.sub [0, 1, 2, 3, 4, 5, 6, 7, 8, 9, 10, 11, 12, 13, 14, 15, 16] (by decide) rfl
    refine va_calli (vx_runSW (As := [.ref (a 0), .int x1, .ref o9]) (rest := []) ⟨hx, hb, hml, xk_od hown, dr_words hts _⟩ (mL_closeX l hst D cI cZ cD a H sh sw ts bi it tu ne pr so lo (nI t) lp lz lu lk ld lf lb lw o9 n hn x1 hg) (vx_cwSW 3 (dr_words hts _) gL_law_L_close rfl rfl rfl (by decide +kernel) ⟨Nat.le_of_ble_eq_true rfl, Nat.le_of_ble_eq_true rfl⟩) ⟨zq_blind, zq_pre hPx ((yk_Kd hK).sub [0, 1, 2] rfl) hDx hE.drawn hN.drawn hS hA⟩ rfl rfl hl.1 rfl (lv_room (Nat.le_of_ble_eq_true rfl)) dL_law_443 ⟨(by show _ ≤ 1065; omega), (by show _ ≤ 12181; omega)⟩) hS (fun q h1 h2 => absurd h2 (Nat.not_le.mpr h1)) (fun q h => Nat.le_trans hS.1 h) (fun r u t9 H9 locs ht hvm hwr hB hz1 hk1 hS => ?_)
    have hP : va_P D vwCl (WL o9 o8 cJ a b cI cZ cD sh sw ts bi it tu ne pr so lo (nI t) (nI n) lp lz lu lk ld lf lb lw mth sh mst ts mbi mpr mba (nI t) (nI n) it tu lk mus mud mfs mfb mbo mso mpc mne fo fd) H9 := hP.kept (fun k q hq => hk1 q.1 (hP k q hq).lt (Nat.not_le.mpr (hP k q hq).lt))
    generalize H9 = H at hP hS ⊢
    refine lv_istore (lv' := [(6, .int r), (0, .ref b9), (1, .ref (a 0)), (2, .ref (b 0)), (3, .ref o9), (4, .ref o8), (5, .int (nI (4 * i)))]) hx hb dL_law_446 hl (by decide) rfl (fun ls hl => ?_)
    refine lv_aload_n hx hb dL_law_448 rfl (lv_at hl 3 rfl) ?_
    refine lv_aload_n hx hb dL_law_449 rfl (lv_at hl 1 rfl) ?_
    refine lv_iload hx hb dL_law_450 (lv_at hl 6 rfl) ?_
    refine lv_iconst (v := nI 1) hx hb dL_law_452 (by decide) ?_
    refine lv_iadd hx hb dL_law_453 ?_
    refine xk_i (y := nI (4 * i + 1)) (nI_add _ _) ?_
    refine va_sld hx hb (X_drawn hX) hbl hbA hS (i := nI (4 * i + 1)) (vp_in_nI (by omega) (by omega)) dL_law_454 ?_
    refine xk_i (y := x1) hx1.symm ?_
    have hPc : va_P D vwCl (MW b cI cZ cD mth sh mst ts mbi mpr mba (nI t) (nI n) it tu lk mus mud mfs mfb mbo mso mpc mne) H := hP.sub [17, 18, 19, 20, 21, 22, 23, 24, 25, 26, 27, 28, 29, 30, 31, 32] rfl
    have hDc : va_D (fun q => s.heap.size ≤ q) (MW b cI cZ cD mth sh mst ts mbi mpr mba (nI t) (nI n) it tu lk mus mud mfs mfb mbo mso mpc mne) := hD.sub [17, 18, 19, 20, 21, 22, 23, 24, 25, 26, 27, 28, 29, 30, 31, 32] (by decide) rfl
    have hFc := va_free (wc := MW b cI cZ cD mth sh mst ts mbi mpr mba (nI t) (nI n) it tu lk mus mud mfs mfb mbo mso mpc mne) hD hS hA [17, 18, 19, 20, 21, 22, 23, 24, 25, 26, 27, 28, 29, 30, 31, 32] rfl
    refine va_calli (va_runV (As := [.int x1]) (rest := []) ⟨hx, hb, hml, xk_od hown, dr_words hts _⟩ (mX2_closeX l D cI cZ cD b _ mth sh mst ts mbi mpr mba (nI t) it tu lk mus mud mfs mfb mbo mso mpc mne n hn x1 hg) (cwV 1 (dr_words hts _) gL_law_X2_close rfl rfl rfl (by decide +kernel) ⟨Nat.le_of_ble_eq_true rfl, Nat.le_of_ble_eq_true rfl⟩) ⟨xk_blind, va_recv (yk_Kd hK) hP (ci := 2) (q0 := 17) rfl rfl, xk_pre hPc ((yk_Kd hK).sub [0, 1, 2] rfl) hDc⟩ rfl rfl hl.1 rfl (lv_room (Nat.le_of_ble_eq_true rfl)) dL_law_455 ⟨(by show _ ≤ 1065; omega), (by show _ ≤ 12181; omega)⟩) hS (fun q _ h => hFc q h) hFc (fun r2 u t9 H locs ht hvm hw hB hz1 hk1 hS => ?_)
    obtain ⟨hP1, -, hD1⟩ := hB
    rw [ht] at hP1
    obtain ⟨hP, hD⟩ := va_join (wr := XW a cI cZ cD sh sw ts bi it tu ne pr so lo (nI t) (nI n) lp lz lu lk ld lf lb lw ++ [(o9, .inl (cJ, 1, .inr (.inl fo))), (o8, .inl (cD, 1, .inr (.inr (.inr (.inl fd)))))]) (w1 := MW b cI cZ cD u sh mst ts mbi mpr mba (nI t) (nI n) it tu lk mus mud mfs mfb mbo mso mpc mne) hP hD [17, 18, 19, 20, 21, 22, 23, 24, 25, 26, 27, 28, 29, 30, 31, 32] [0, 1, 2, 3, 4, 5, 6, 7, 8, 9, 10, 11, 12, 13, 14, 15, 16, 33, 34] rfl rfl (by decide) (by decide) hk1 hFc hP1 hD1
    have hP : va_P D vwCl (WL o9 o8 cJ a b cI cZ cD sh sw ts bi it tu ne pr so lo (nI t) (nI n) lp lz lu lk ld lf lb lw u sh mst ts mbi mpr mba (nI t) (nI n) it tu lk mus mud mfs mfb mbo mso mpc mne fo fd) H := hP.sub [0, 1, 2, 3, 4, 5, 6, 7, 8, 9, 10, 11, 12, 13, 14, 15, 16, 19, 20, 21, 22, 23, 24, 25, 26, 27, 28, 29, 30, 31, 32, 33, 34, 17, 18] rfl
    have hD : va_D (fun q => s.heap.size ≤ q) (WL o9 o8 cJ a b cI cZ cD sh sw ts bi it tu ne pr so lo (nI t) (nI n) lp lz lu lk ld lf lb lw u sh mst ts mbi mpr mba (nI t) (nI n) it tu lk mus mud mfs mfb mbo mso mpc mne fo fd) := hD.sub [0, 1, 2, 3, 4, 5, 6, 7, 8, 9, 10, 11, 12, 13, 14, 15, 16, 19, 20, 21, 22, 23, 24, 25, 26, 27, 28, 29, 30, 31, 32, 33, 34, 17, 18] (by decide) rfl
    refine lv_istore (lv' := [(7, .int r2), (6, .int r), (0, .ref b9), (1, .ref (a 0)), (2, .ref (b 0)), (3, .ref o9), (4, .ref o8), (5, .int (nI (4 * i)))]) hx hb dL_law_458 hl (by decide) rfl (fun ls hl => ?_)
    have hur : u = r ∧ ¬ r = 0 := two_a hwr hw
    refine lv_aload_n hx hb dL_law_460 rfl (lv_at hl 4 rfl) ?_
    have hPc : va_P D vwCl (MW b cI cZ cD u sh mst ts mbi mpr mba (nI t) (nI n) it tu lk mus mud mfs mfb mbo mso mpc mne) H := hP.sub [17, 18, 19, 20, 21, 22, 23, 24, 25, 26, 27, 28, 29, 30, 31, 32] rfl
    have hDc : va_D (fun q => s.heap.size ≤ q) (MW b cI cZ cD u sh mst ts mbi mpr mba (nI t) (nI n) it tu lk mus mud mfs mfb mbo mso mpc mne) := hD.sub [17, 18, 19, 20, 21, 22, 23, 24, 25, 26, 27, 28, 29, 30, 31, 32] (by decide) rfl
    have hFc := va_free (wc := MW b cI cZ cD u sh mst ts mbi mpr mba (nI t) (nI n) it tu lk mus mud mfs mfb mbo mso mpc mne) hD hS hA [17, 18, 19, 20, 21, 22, 23, 24, 25, 26, 27, 28, 29, 30, 31, 32] rfl
    refine va_calli (va_runV (As := []) (rest := []) ⟨hx, hb, hml, xk_od hown, dr_words hts _⟩ (mX2_thrown l D cI cZ cD b _ u sh mst ts mbi mpr mba (nI t) (nI n) it tu lk mus mud mfs mfb mbo mso mpc mne ) (cwV 0 (dr_words hts _) gL_law_X2_thrown rfl rfl rfl (by decide +kernel) ⟨Nat.le_of_ble_eq_true rfl, Nat.le_of_ble_eq_true rfl⟩) ⟨xk_blind, va_recv (yk_Kd hK) hP (ci := 2) (q0 := 17) rfl rfl, xk_pre hPc ((yk_Kd hK).sub [0, 1, 2] rfl) hDc⟩ rfl rfl hl.1 rfl (lv_room (Nat.le_of_ble_eq_true rfl)) dL_law_461 ⟨(by show _ ≤ 1065; omega), (by show _ ≤ 12181; omega)⟩) hS (fun q _ h => hFc q h) hFc (fun r8 u8 t9 H locs ht hvm hw hB hz1 hk1 hS => ?_)
    obtain ⟨hP1, -, hD1⟩ := hB
    rw [ht] at hP1
    obtain ⟨hP, hD⟩ := va_join (wr := XW a cI cZ cD sh sw ts bi it tu ne pr so lo (nI t) (nI n) lp lz lu lk ld lf lb lw ++ [(o9, .inl (cJ, 1, .inr (.inl fo))), (o8, .inl (cD, 1, .inr (.inr (.inr (.inl fd)))))]) (w1 := MW b cI cZ cD u sh mst ts mbi mpr mba (nI t) (nI n) it tu lk mus mud mfs mfb mbo mso mpc mne) hP hD [17, 18, 19, 20, 21, 22, 23, 24, 25, 26, 27, 28, 29, 30, 31, 32] [0, 1, 2, 3, 4, 5, 6, 7, 8, 9, 10, 11, 12, 13, 14, 15, 16, 33, 34] rfl rfl (by decide) (by decide) hk1 hFc hP1 hD1
    have hP : va_P D vwCl (WL o9 o8 cJ a b cI cZ cD sh sw ts bi it tu ne pr so lo (nI t) (nI n) lp lz lu lk ld lf lb lw u sh mst ts mbi mpr mba (nI t) (nI n) it tu lk mus mud mfs mfb mbo mso mpc mne fo fd) H := hP.sub [0, 1, 2, 3, 4, 5, 6, 7, 8, 9, 10, 11, 12, 13, 14, 15, 16, 19, 20, 21, 22, 23, 24, 25, 26, 27, 28, 29, 30, 31, 32, 33, 34, 17, 18] rfl
    have hD : va_D (fun q => s.heap.size ≤ q) (WL o9 o8 cJ a b cI cZ cD sh sw ts bi it tu ne pr so lo (nI t) (nI n) lp lz lu lk ld lf lb lw u sh mst ts mbi mpr mba (nI t) (nI n) it tu lk mus mud mfs mfb mbo mso mpc mne fo fd) := hD.sub [0, 1, 2, 3, 4, 5, 6, 7, 8, 9, 10, 11, 12, 13, 14, 15, 16, 19, 20, 21, 22, 23, 24, 25, 26, 27, 28, 29, 30, 31, 32, 33, 34, 17, 18] (by decide) rfl
    refine xk_i (y := u) hw ?_
    refine lv_iload hx hb dL_law_464 (lv_at hl 1 rfl) ?_
    refine lv_icmp_eq (tgt := 471) hx hb dL_law_466 (by decide) (fun c => ?_) (fun c => absurd hur.1 c)
    refine lv_iload hx hb dL_law_471 (lv_at hl 1 rfl) ?_
    refine lv_if_ne (tgt := 495) hx hb dL_law_473 (by decide) (fun c => ?_) (fun c => absurd c hur.2)
    refine lv_goto (tgt := 1232) hx hb dL_law_495 (by decide) ?_
    refine lv_iinc (v := nI (4 * (i + 1))) (lv' := [(5, .int (nI (4 * (i + 1)))), (7, .int r2), (6, .int r), (0, .ref b9), (1, .ref (a 0)), (2, .ref (b 0)), (3, .ref o9), (4, .ref o8)]) hx hb dL_law_1232 hl (k := 7) rfl (iinc4 i) (by decide) rfl (fun ls hl => ?_)
    refine lv_goto (tgt := 28) hx hb dL_law_1235 (by decide) ?_
    refine W.widen (k := 35 + (i + 1)) (n := 3953 + 6 * (i + 1)) (by omega) (by omega) ?_
    exact next _ _ _ _ ⟨n, t, sh, sw, ts, bi, it, tu, ne, pr, so, lo, lp, lz, lu, lk, ld, lf, lb, lw, u, mst, mbi, mpr, mba, mus, mud, mfs, mfb, mbo, mso, mpc, mne, fo, fd, ⟨hn, ht5, hsm, hsw, hit, hbi, hpr, hso, hlu, hld, hlf, hlz9, hlb, hlw, hlz, hlp⟩, hP, hD, hS, hdl, lv_sub hl [3, 4, 5, 6, 7, 0] rfl⟩
set_option maxHeartbeats 4000000 in
set_option maxRecDepth 100000 in
theorem ls_6 {p : Program} {l : Launch} {e : Env} {s : State} {m : MethodId} {below : List Frame} {meth : Method} {c : Code} {b9 L : Nat} {xs : Nat → Int32} {D : va_G} {cI cZ cD cJ : ClassId} (C : LC l p s m meth c b9 L xs D cI cZ cD cJ) {a b : Nat → Nat} {o9 o8 i : Nat} (hi4 : 4 * i + 4 ≤ L) {H : Heap} {locs : List Loc} {ls : Array Slot} {d : Drawn} (hI : LInv s D cI cZ cD cJ a b b9 o9 o8 i H locs ls d) (next : ∀ (H' : Heap) (locs' : List Loc) (ls' : Array Slot) (d' : Drawn), LInv s D cI cZ cD cJ a b b9 o9 o8 (i + 1) H' locs' ls' d' → W p l e room_1 (s.setDrawn d') m #[Value.ref b9] below meth c H' locs' (35 + (i + 1)) (3953 + 6 * (i + 1)) (lw_Z below #[Value.ref b9] s) (F0 m 28 ls' [])) : W p l e room_1 (s.setDrawn d) m #[Value.ref b9] below meth c H locs (35 + i) (3953 + 6 * i) (lw_Z below #[Value.ref b9] s) (F0 m 511 ls []) := by
  obtain ⟨hst, hL, C0, hE, hN, hK⟩ := C
  obtain ⟨hx, hb, hr, hml, hown, hts0, hX, hbl, hlocks, hgv⟩ := C0
  have hts : ∀ w ∈ wsL_law, w.before #[Value.ref b9] s = true := fun w h => hts0 w (wsL_law_in w h)
  obtain ⟨n, t, sh, sw, ts, bi, it, tu, ne, pr, so, lo, lp, lz, lu, lk, ld, lf, lb, lw, mth, mst, mbi, mpr, mba, mus, mud, mfs, mfb, mbo, mso, mpc, mne, fo, fd, ⟨hn, ht5, hsm, hsw, hit, hbi, hpr, hso, hlu, hld, hlf, hlz9, hlb, hlw, hlz, hlp⟩, hP, hD, hS, hdl, hl⟩ := hI
  have hA : ∀ q : Nat, s.heap.size ≤ q → (fun q => s.heap.size ≤ q) q := fun q h => h
  have hbA : ¬ (fun q => s.heap.size ≤ q) b9 := Nat.not_le.mpr hbl
  obtain ⟨x1, hx1⟩ : ∃ x, x = xs (nI (4 * i + 1)).toNatClampNeg := ⟨_, rfl⟩
  obtain ⟨x2, hx2⟩ : ∃ x, x = xs (nI (4 * i + 2)).toNatClampNeg := ⟨_, rfl⟩
  obtain ⟨x3, hx3⟩ : ∃ x, x = xs (nI (4 * i + 3)).toNatClampNeg := ⟨_, rfl⟩
  by_cases hg : inR x1 0 4 ∧ inR x3 0 50 ∧ isQ n x2 ∧ ¬ kn lk x1 x2
  · skip
    obtain ⟨g1, g3, g2, g4⟩ := hg
    obtain ⟨o, ho4, rfl⟩ := inR_nI (n := 4) (by decide) g1
    have ho : o < 5 := by omega
    obtain ⟨q, hq, rfl⟩ := isQ_nI (by omega) g2
    have hkn : lk (5 * q + o) = 0 := Decidable.of_not_not (fun z => g4 ((kn_nI ho (by omega)).mpr z))
    refine lv_aload_n hx hb dL_law_511 rfl (lv_at hl 1 rfl) ?_
    refine lv_aload_n hx hb dL_law_512 rfl (lv_at hl 0 rfl) ?_
    refine lv_iload hx hb dL_law_513 (lv_at hl 5 rfl) ?_
    refine lv_iconst (v := nI 1) hx hb dL_law_515 (by decide) ?_
    refine lv_iadd hx hb dL_law_516 ?_
    refine xk_i (y := nI (4 * i + 1)) (nI_add _ _) ?_
    refine va_sld hx hb (X_drawn hX) hbl hbA hS (i := nI (4 * i + 1)) (vp_in_nI (by omega) (by omega)) dL_law_517 ?_
    refine xk_i (y := nI o) hx1.symm ?_
    refine lv_aload_n hx hb dL_law_518 rfl (lv_at hl 0 rfl) ?_
    refine lv_iload hx hb dL_law_519 (lv_at hl 5 rfl) ?_
    refine lv_iconst (v := nI 2) hx hb dL_law_521 (by decide) ?_
    refine lv_iadd hx hb dL_law_522 ?_
    refine xk_i (y := nI (4 * i + 2)) (nI_add _ _) ?_
    refine va_sld hx hb (X_drawn hX) hbl hbA hS (i := nI (4 * i + 2)) (vp_in_nI (by omega) (by omega)) dL_law_523 ?_
    refine xk_i (y := nI q) hx2.symm ?_
    refine lv_aload_n hx hb dL_law_524 rfl (lv_at hl 0 rfl) ?_
    refine lv_iload hx hb dL_law_525 (lv_at hl 5 rfl) ?_
    refine lv_iconst (v := nI 3) hx hb dL_law_527 (by decide) ?_
    refine lv_iadd hx hb dL_law_528 ?_
    refine xk_i (y := nI (4 * i + 3)) (nI_add _ _) ?_
    refine va_sld hx hb (X_drawn hX) hbl hbA hS (i := nI (4 * i + 3)) (vp_in_nI (by omega) (by omega)) dL_law_529 ?_
    refine xk_i (y := x3) hx3.symm ?_
    refine lv_aload hx hb dL_law_530 (lv_at hl 4 rfl) ?_
    have hPc : va_P D vwCl (XWD o8 a cI cZ cD sh sw ts bi it tu ne pr so lo (nI t) (nI n) lp lz lu lk ld lf lb lw fd) H := hP.sub [0, 1, 2, 3, 4, 5, 6, 7, 8, 9, 10, 11, 12, 13, 14, 15, 16, 34] rfl
    have hDc : va_D (fun q => s.heap.size ≤ q) (XWD o8 a cI cZ cD sh sw ts bi it tu ne pr so lo (nI t) (nI n) lp lz lu lk ld lf lb lw fd) := hD.sub [0, 1, 2, 3, 4, 5, 6, 7, 8, 9, 10, 11, 12, 13, 14, 15, 16, 34] (by decide) rfl
    have hFc := va_free (wc := XWD o8 a cI cZ cD sh sw ts bi it tu ne pr so lo (nI t) (nI n) lp lz lu lk ld lf lb lw fd) hD hS hA [0, 1, 2, 3, 4, 5, 6, 7, 8, 9, 10, 11, 12, 13, 14, 15, 16, 34] rfl
    refine va_calliD hdl (xd_runSX (As := [.ref (a 0), .int (nI o), .int (nI q), .int x3, .ref o8]) (rest := []) ⟨hx, hb, hml, xk_od hown, dr_words hts _⟩ (mL_replaceV l D cI cZ cD cJ a o8 _ sh sw ts bi it tu ne pr so lo (nI t) lp lz lu lk ld lf lb lw fd n o q x3 hn ho hq g3 hkn) (vx_cwSW 5 (dr_words hts _) gL_law_L_replace rfl rfl rfl (by decide +kernel) ⟨Nat.le_of_ble_eq_true rfl, Nat.le_of_ble_eq_true rfl⟩) ⟨yk_blind, yk_pre hPc (yk_Kd hK) hDc⟩ rfl rfl hl.1 rfl (lv_room (Nat.le_of_ble_eq_true rfl)) dL_law_532 ⟨(by show _ ≤ 1065; omega), (by show _ ≤ 12181; omega)⟩) hS (fun q _ h => hFc q h) hFc (fun r u t9 H locs ht hvm hw hB hz1 hk1 hS _ hd1 => ?_)
    obtain ⟨z, fd1⟩ := u
    obtain ⟨rfl, hv1, hv2⟩ := hw
    dsimp only at hv1 hv2
    obtain ⟨hP1, -, hD1⟩ := hB
    rw [ht] at hP1
    obtain ⟨hP, hD⟩ := va_join (wr := MW b cI cZ cD mth sh mst ts mbi mpr mba (nI t) (nI n) it tu lk mus mud mfs mfb mbo mso mpc mne ++ [(o9, .inl (cJ, 1, .inr (.inl fo)))]) (w1 := XWD o8 a cI cZ cD sh sw ts z it tu ne pr so lo (nI t) (nI n) lp lz (vf_upd lu (5 * q + o) (FP.i2d x3)) (upd lk (5 * q + o) 1) ld lf lb lw fd1) hP hD [0, 1, 2, 3, 4, 5, 6, 7, 8, 9, 10, 11, 12, 13, 14, 15, 16, 34] [17, 18, 19, 20, 21, 22, 23, 24, 25, 26, 27, 28, 29, 30, 31, 32, 33] rfl rfl (by decide) (by decide) hk1 hFc hP1 hD1
    have hP : va_P D vwCl (WL o9 o8 cJ a b cI cZ cD sh sw ts z it tu ne pr so lo (nI t) (nI n) lp lz (vf_upd lu (5 * q + o) (FP.i2d x3)) (upd lk (5 * q + o) 1) ld lf lb lw mth sh mst ts mbi mpr mba (nI t) (nI n) it tu lk mus mud mfs mfb mbo mso mpc mne fo fd1) H := hP.sub [17, 18, 19, 20, 21, 22, 23, 24, 25, 26, 27, 28, 29, 30, 31, 32, 33, 0, 1, 2, 3, 4, 5, 6, 7, 8, 9, 10, 11, 12, 13, 14, 15, 16, 34] rfl
    have hD : va_D (fun q => s.heap.size ≤ q) (WL o9 o8 cJ a b cI cZ cD sh sw ts z it tu ne pr so lo (nI t) (nI n) lp lz (vf_upd lu (5 * q + o) (FP.i2d x3)) (upd lk (5 * q + o) 1) ld lf lb lw mth sh mst ts mbi mpr mba (nI t) (nI n) it tu lk mus mud mfs mfb mbo mso mpc mne fo fd1) := hD.sub [17, 18, 19, 20, 21, 22, 23, 24, 25, 26, 27, 28, 29, 30, 31, 32, 33, 0, 1, 2, 3, 4, 5, 6, 7, 8, 9, 10, 11, 12, 13, 14, 15, 16, 34] (by decide) rfl
    refine lv_istore (lv' := [(6, .int 0), (0, .ref b9), (1, .ref (a 0)), (2, .ref (b 0)), (3, .ref o9), (4, .ref o8), (5, .int (nI (4 * i)))]) hx hb dL_law_535 hl (by decide) rfl (fun ls hl => ?_)
    refine lv_aload_n hx hb dL_law_537 rfl (lv_at hl 3 rfl) ?_
    refine lv_aload_n hx hb dL_law_538 rfl (lv_at hl 1 rfl) ?_
    refine lv_iload hx hb dL_law_539 (lv_at hl 6 rfl) ?_
    refine lv_iconst (v := nI 1) hx hb dL_law_541 (by decide) ?_
    refine lv_iadd hx hb dL_law_542 ?_
    refine xk_i (y := nI (4 * i + 1)) (nI_add _ _) ?_
    refine va_sld hx hb (X_drawn hX) hbl hbA hS (i := nI (4 * i + 1)) (vp_in_nI (by omega) (by omega)) dL_law_543 ?_
    refine xk_i (y := nI o) hx1.symm ?_
    refine lv_aload_n hx hb dL_law_544 rfl (lv_at hl 1 rfl) ?_
    refine lv_iload hx hb dL_law_545 (lv_at hl 6 rfl) ?_
    refine lv_iconst (v := nI 2) hx hb dL_law_547 (by decide) ?_
    refine lv_iadd hx hb dL_law_548 ?_
    refine xk_i (y := nI (4 * i + 2)) (nI_add _ _) ?_
    refine va_sld hx hb (X_drawn hX) hbl hbA hS (i := nI (4 * i + 2)) (vp_in_nI (by omega) (by omega)) dL_law_549 ?_
    refine xk_i (y := nI q) hx2.symm ?_
    refine lv_aload_n hx hb dL_law_550 rfl (lv_at hl 1 rfl) ?_
    refine lv_iload hx hb dL_law_551 (lv_at hl 6 rfl) ?_
    refine lv_iconst (v := nI 3) hx hb dL_law_553 (by decide) ?_
    refine lv_iadd hx hb dL_law_554 ?_
    refine xk_i (y := nI (4 * i + 3)) (nI_add _ _) ?_
    refine va_sld hx hb (X_drawn hX) hbl hbA hS (i := nI (4 * i + 3)) (vp_in_nI (by omega) (by omega)) dL_law_555 ?_
    refine xk_i (y := x3) hx3.symm ?_
    have hPc : va_P D vwCl (MW b cI cZ cD mth sh mst ts mbi mpr mba (nI t) (nI n) it tu lk mus mud mfs mfb mbo mso mpc mne) H := hP.sub [17, 18, 19, 20, 21, 22, 23, 24, 25, 26, 27, 28, 29, 30, 31, 32] rfl
    have hDc : va_D (fun q => s.heap.size ≤ q) (MW b cI cZ cD mth sh mst ts mbi mpr mba (nI t) (nI n) it tu lk mus mud mfs mfb mbo mso mpc mne) := hD.sub [17, 18, 19, 20, 21, 22, 23, 24, 25, 26, 27, 28, 29, 30, 31, 32] (by decide) rfl
    have hFc := va_free (wc := MW b cI cZ cD mth sh mst ts mbi mpr mba (nI t) (nI n) it tu lk mus mud mfs mfb mbo mso mpc mne) hD hS hA [17, 18, 19, 20, 21, 22, 23, 24, 25, 26, 27, 28, 29, 30, 31, 32] rfl
    refine va_calldD hd1 (va_runV_D (As := [.int (nI o), .int (nI q), .int x3]) (rest := []) ⟨hx, hb, hml, xk_od hown, dr_words hts _⟩ (mX2_replaceV l D cI cZ cD b _ mth sh mst ts mbi mpr mba (nI t) it tu lk mus mud mfs mfb mbo mso mpc mne n o q x3 hn ho hq g3 hkn) (cwV 3 (dr_words hts _) gL_law_X2_replace rfl rfl rfl (by decide +kernel) ⟨Nat.le_of_ble_eq_true rfl, Nat.le_of_ble_eq_true rfl⟩) ⟨xk_blind, va_recv (yk_Kd hK) hP (ci := 2) (q0 := 17) rfl rfl, xk_pre hPc ((yk_Kd hK).sub [0, 1, 2] rfl) hDc⟩ rfl rfl hl.1 rfl (lv_room (Nat.le_of_ble_eq_true rfl)) dL_law_556 ⟨(by show _ ≤ 1065; omega), (by show _ ≤ 12181; omega)⟩) hS (fun q _ h => hFc q h) hFc (fun r2 u t9 H locs ht hvm hw hB hz1 hk1 hS _ hd2 => ?_)
    obtain ⟨y, rfl⟩ : ∃ z, z = u := ⟨_, rfl⟩
    obtain ⟨hP1, -, hD1⟩ := hB
    rw [ht] at hP1
    obtain ⟨hP, hD⟩ := va_join (wr := XW a cI cZ cD sh sw ts z it tu ne pr so lo (nI t) (nI n) lp lz (vf_upd lu (5 * q + o) (FP.i2d x3)) (upd lk (5 * q + o) 1) ld lf lb lw ++ [(o9, .inl (cJ, 1, .inr (.inl fo))), (o8, .inl (cD, 1, .inr (.inr (.inr (.inl fd1)))))]) (w1 := MW b cI cZ cD 0 sh mst ts y mpr mba (nI t) (nI n) it tu (upd lk (5 * q + o) 1) (vf_upd mus (5 * q + o) (FP.i2d x3)) mud mfs mfb mbo mso mpc mne) hP hD [17, 18, 19, 20, 21, 22, 23, 24, 25, 26, 27, 28, 29, 30, 31, 32] [0, 1, 2, 3, 4, 5, 6, 7, 8, 9, 10, 11, 12, 13, 14, 15, 16, 33, 34] rfl rfl (by decide) (by decide) hk1 hFc hP1 hD1
    have hP : va_P D vwCl (WL o9 o8 cJ a b cI cZ cD sh sw ts z it tu ne pr so lo (nI t) (nI n) lp lz (vf_upd lu (5 * q + o) (FP.i2d x3)) (upd lk (5 * q + o) 1) ld lf lb lw 0 sh mst ts y mpr mba (nI t) (nI n) it tu (upd lk (5 * q + o) 1) (vf_upd mus (5 * q + o) (FP.i2d x3)) mud mfs mfb mbo mso mpc mne fo fd1) H := hP.sub [0, 1, 2, 3, 4, 5, 6, 7, 8, 9, 10, 11, 12, 13, 14, 15, 16, 19, 20, 21, 22, 23, 24, 25, 26, 27, 28, 29, 30, 31, 32, 33, 34, 17, 18] rfl
    have hD : va_D (fun q => s.heap.size ≤ q) (WL o9 o8 cJ a b cI cZ cD sh sw ts z it tu ne pr so lo (nI t) (nI n) lp lz (vf_upd lu (5 * q + o) (FP.i2d x3)) (upd lk (5 * q + o) 1) ld lf lb lw 0 sh mst ts y mpr mba (nI t) (nI n) it tu (upd lk (5 * q + o) 1) (vf_upd mus (5 * q + o) (FP.i2d x3)) mud mfs mfb mbo mso mpc mne fo fd1) := hD.sub [0, 1, 2, 3, 4, 5, 6, 7, 8, 9, 10, 11, 12, 13, 14, 15, 16, 19, 20, 21, 22, 23, 24, 25, 26, 27, 28, 29, 30, 31, 32, 33, 34, 17, 18] (by decide) rfl
    obtain ⟨hw1, hw2⟩ := hw
    rw [← hld, ← hlp] at hw1
    rw [← hld, ← hlp, ← hbi] at hw2
    have hnz : nz (dt (fd1 0)) (dt r2) := by rw [hv1, hw1]; exact nz.rf _
    refine lv_dstore (lv' := [(7, .double r2), (6, .int 0), (0, .ref b9), (1, .ref (a 0)), (2, .ref (b 0)), (3, .ref o9), (4, .ref o8), (5, .int (nI (4 * i)))]) hx hb dL_law_559 hl (by decide) rfl (fun ls hl => ?_)
    refine lv_aload_n hx hb dL_law_561 rfl (lv_at hl 4 rfl) ?_
    have hPc : va_P D vwCl (MW b cI cZ cD 0 sh mst ts y mpr mba (nI t) (nI n) it tu (upd lk (5 * q + o) 1) (vf_upd mus (5 * q + o) (FP.i2d x3)) mud mfs mfb mbo mso mpc mne) H := hP.sub [17, 18, 19, 20, 21, 22, 23, 24, 25, 26, 27, 28, 29, 30, 31, 32] rfl
    have hDc : va_D (fun q => s.heap.size ≤ q) (MW b cI cZ cD 0 sh mst ts y mpr mba (nI t) (nI n) it tu (upd lk (5 * q + o) 1) (vf_upd mus (5 * q + o) (FP.i2d x3)) mud mfs mfb mbo mso mpc mne) := hD.sub [17, 18, 19, 20, 21, 22, 23, 24, 25, 26, 27, 28, 29, 30, 31, 32] (by decide) rfl
    have hFc := va_free (wc := MW b cI cZ cD 0 sh mst ts y mpr mba (nI t) (nI n) it tu (upd lk (5 * q + o) 1) (vf_upd mus (5 * q + o) (FP.i2d x3)) mud mfs mfb mbo mso mpc mne) hD hS hA [17, 18, 19, 20, 21, 22, 23, 24, 25, 26, 27, 28, 29, 30, 31, 32] rfl
    refine va_calli (va_runV (As := []) (rest := []) ⟨hx, hb, hml, xk_od hown, dr_words hts _⟩ (mX2_thrown l D cI cZ cD b _ 0 sh mst ts y mpr mba (nI t) (nI n) it tu (upd lk (5 * q + o) 1) (vf_upd mus (5 * q + o) (FP.i2d x3)) mud mfs mfb mbo mso mpc mne ) (cwV 0 (dr_words hts _) gL_law_X2_thrown rfl rfl rfl (by decide +kernel) ⟨Nat.le_of_ble_eq_true rfl, Nat.le_of_ble_eq_true rfl⟩) ⟨xk_blind, va_recv (yk_Kd hK) hP (ci := 2) (q0 := 17) rfl rfl, xk_pre hPc ((yk_Kd hK).sub [0, 1, 2] rfl) hDc⟩ rfl rfl hl.1 rfl (lv_room (Nat.le_of_ble_eq_true rfl)) dL_law_562 ⟨(by show _ ≤ 1065; omega), (by show _ ≤ 12181; omega)⟩) hS (fun q _ h => hFc q h) hFc (fun r8 u8 t9 H locs ht hvm hw hB hz1 hk1 hS => ?_)
    obtain ⟨hP1, -, hD1⟩ := hB
    rw [ht] at hP1
    obtain ⟨hP, hD⟩ := va_join (wr := XW a cI cZ cD sh sw ts z it tu ne pr so lo (nI t) (nI n) lp lz (vf_upd lu (5 * q + o) (FP.i2d x3)) (upd lk (5 * q + o) 1) ld lf lb lw ++ [(o9, .inl (cJ, 1, .inr (.inl fo))), (o8, .inl (cD, 1, .inr (.inr (.inr (.inl fd1)))))]) (w1 := MW b cI cZ cD 0 sh mst ts y mpr mba (nI t) (nI n) it tu (upd lk (5 * q + o) 1) (vf_upd mus (5 * q + o) (FP.i2d x3)) mud mfs mfb mbo mso mpc mne) hP hD [17, 18, 19, 20, 21, 22, 23, 24, 25, 26, 27, 28, 29, 30, 31, 32] [0, 1, 2, 3, 4, 5, 6, 7, 8, 9, 10, 11, 12, 13, 14, 15, 16, 33, 34] rfl rfl (by decide) (by decide) hk1 hFc hP1 hD1
    have hP : va_P D vwCl (WL o9 o8 cJ a b cI cZ cD sh sw ts z it tu ne pr so lo (nI t) (nI n) lp lz (vf_upd lu (5 * q + o) (FP.i2d x3)) (upd lk (5 * q + o) 1) ld lf lb lw 0 sh mst ts y mpr mba (nI t) (nI n) it tu (upd lk (5 * q + o) 1) (vf_upd mus (5 * q + o) (FP.i2d x3)) mud mfs mfb mbo mso mpc mne fo fd1) H := hP.sub [0, 1, 2, 3, 4, 5, 6, 7, 8, 9, 10, 11, 12, 13, 14, 15, 16, 19, 20, 21, 22, 23, 24, 25, 26, 27, 28, 29, 30, 31, 32, 33, 34, 17, 18] rfl
    have hD : va_D (fun q => s.heap.size ≤ q) (WL o9 o8 cJ a b cI cZ cD sh sw ts z it tu ne pr so lo (nI t) (nI n) lp lz (vf_upd lu (5 * q + o) (FP.i2d x3)) (upd lk (5 * q + o) 1) ld lf lb lw 0 sh mst ts y mpr mba (nI t) (nI n) it tu (upd lk (5 * q + o) 1) (vf_upd mus (5 * q + o) (FP.i2d x3)) mud mfs mfb mbo mso mpc mne fo fd1) := hD.sub [0, 1, 2, 3, 4, 5, 6, 7, 8, 9, 10, 11, 12, 13, 14, 15, 16, 19, 20, 21, 22, 23, 24, 25, 26, 27, 28, 29, 30, 31, 32, 33, 34, 17, 18] (by decide) rfl
    refine xk_i (y := 0) hw ?_
    refine lv_iload hx hb dL_law_565 (lv_at hl 1 rfl) ?_
    refine lv_icmp_eq (tgt := 572) hx hb dL_law_567 (by decide) (fun c => ?_) (fun c => absurd rfl c)
    refine lv_iload hx hb dL_law_572 (lv_at hl 1 rfl) ?_
    refine lv_if_ne (tgt := 609) hx hb dL_law_574 (by decide) (fun c => absurd rfl c) (fun c => ?_)
    refine lv_aload hx hb dL_law_577 (lv_at hl 6 rfl) ?_
    refine lv_iconst (v := nI 0) hx hb dL_law_579 (by decide) ?_
    refine xk_dald hx hb (yk_Kd hK) hP 34 2 rfl rfl (o := 0) (by decide) (by decide) dL_law_580 ?_
    refine lv_dload hx hb dL_law_581 (lv_at hl 0 rfl) ?_
    refine lv_dcmp hx hb dL_law_583 ?_
    refine lv_if_eq (tgt := 609) hx hb dL_law_584 (by decide) (fun c => ?_) (fun c => ?_)
    · skip
      refine lv_goto (tgt := 1232) hx hb dL_law_609 (by decide) ?_
      refine lv_iinc (v := nI (4 * (i + 1))) (lv' := [(5, .int (nI (4 * (i + 1)))), (7, .double r2), (6, .int 0), (0, .ref b9), (1, .ref (a 0)), (2, .ref (b 0)), (3, .ref o9), (4, .ref o8)]) hx hb dL_law_1232 hl (k := 7) rfl (iinc4 i) (by decide) rfl (fun ls hl => ?_)
      refine lv_goto (tgt := 28) hx hb dL_law_1235 (by decide) ?_
      refine W.widen (k := 35 + (i + 1)) (n := 3953 + 6 * (i + 1)) (by omega) (by omega) ?_
      exact next _ _ _ _ ⟨n, t, sh, sw, ts, z, it, tu, ne, pr, so, lo, lp, lz, vf_upd lu (5 * q + o) (FP.i2d x3), upd lk (5 * q + o) 1, ld, lf, lb, lw, 0, mst, y, mpr, mba, vf_upd mus (5 * q + o) (FP.i2d x3), mud, mfs, mfb, mbo, mso, mpc, mne, fo, fd1, ⟨hn, ht5, hsm, hsw, hit, hv2.trans hw2.symm, hpr, hso, (by rw [dts_up, dts_up, hlu]), hld, hlf, hlz9, hlb, hlw, hlz, hlp⟩, hP, hD, hS, hd2, lv_sub hl [3, 4, 5, 6, 7, 0] rfl⟩
    · skip
      have hnn := (dCmp_nz hnz).resolve_left (fun z => c ((cv_l_eq _).mpr z))
      refine lv_aload hx hb dL_law_587 (lv_at hl 6 rfl) ?_
      refine lv_iconst (v := nI 0) hx hb dL_law_589 (by decide) ?_
      refine xk_dald hx hb (yk_Kd hK) hP 34 2 rfl rfl (o := 0) (by decide) (by decide) dL_law_590 ?_
      refine lv_aload hx hb dL_law_591 (lv_at hl 6 rfl) ?_
      refine lv_iconst (v := nI 0) hx hb dL_law_593 (by decide) ?_
      refine xk_dald hx hb (yk_Kd hK) hP 34 2 rfl rfl (o := 0) (by decide) (by decide) dL_law_594 ?_
      refine lv_dcmp hx hb dL_law_595 ?_
      refine lv_if_eq (tgt := 607) hx hb dL_law_596 (by decide) (fun c => absurd c (nan_ne hnn.1)) (fun c => ?_)
      refine lv_dload hx hb dL_law_599 (lv_at hl 0 rfl) ?_
      refine lv_dload hx hb dL_law_601 (lv_at hl 0 rfl) ?_
      refine lv_dcmp hx hb dL_law_603 ?_
      refine lv_if_ne (tgt := 609) hx hb dL_law_604 (by decide) (fun c => ?_) (fun c => absurd c (nan_ne hnn.2))
      refine lv_goto (tgt := 1232) hx hb dL_law_609 (by decide) ?_
      refine lv_iinc (v := nI (4 * (i + 1))) (lv' := [(5, .int (nI (4 * (i + 1)))), (7, .double r2), (6, .int 0), (0, .ref b9), (1, .ref (a 0)), (2, .ref (b 0)), (3, .ref o9), (4, .ref o8)]) hx hb dL_law_1232 hl (k := 7) rfl (iinc4 i) (by decide) rfl (fun ls hl => ?_)
      refine lv_goto (tgt := 28) hx hb dL_law_1235 (by decide) ?_
      refine W.widen (k := 35 + (i + 1)) (n := 3953 + 6 * (i + 1)) (by omega) (by omega) ?_
      exact next _ _ _ _ ⟨n, t, sh, sw, ts, z, it, tu, ne, pr, so, lo, lp, lz, vf_upd lu (5 * q + o) (FP.i2d x3), upd lk (5 * q + o) 1, ld, lf, lb, lw, 0, mst, y, mpr, mba, vf_upd mus (5 * q + o) (FP.i2d x3), mud, mfs, mfb, mbo, mso, mpc, mne, fo, fd1, ⟨hn, ht5, hsm, hsw, hit, hv2.trans hw2.symm, hpr, hso, (by rw [dts_up, dts_up, hlu]), hld, hlf, hlz9, hlb, hlw, hlz, hlp⟩, hP, hD, hS, hd2, lv_sub hl [3, 4, 5, 6, 7, 0] rfl⟩
  · skip
    refine lv_aload_n hx hb dL_law_511 rfl (lv_at hl 1 rfl) ?_
    refine lv_aload_n hx hb dL_law_512 rfl (lv_at hl 0 rfl) ?_
    refine lv_iload hx hb dL_law_513 (lv_at hl 5 rfl) ?_
    refine lv_iconst (v := nI 1) hx hb dL_law_515 (by decide) ?_
    refine lv_iadd hx hb dL_law_516 ?_
    refine xk_i (y := nI (4 * i + 1)) (nI_add _ _) ?_
    refine va_sld hx hb (X_drawn hX) hbl hbA hS (i := nI (4 * i + 1)) (vp_in_nI (by omega) (by omega)) dL_law_517 ?_
    refine xk_i (y := x1) hx1.symm ?_
    refine lv_aload_n hx hb dL_law_518 rfl (lv_at hl 0 rfl) ?_
    refine lv_iload hx hb dL_law_519 (lv_at hl 5 rfl) ?_
    refine lv_iconst (v := nI 2) hx hb dL_law_521 (by decide) ?_
    refine lv_iadd hx hb dL_law_522 ?_
    refine xk_i (y := nI (4 * i + 2)) (nI_add _ _) ?_
    refine va_sld hx hb (X_drawn hX) hbl hbA hS (i := nI (4 * i + 2)) (vp_in_nI (by omega) (by omega)) dL_law_523 ?_
    refine xk_i (y := x2) hx2.symm ?_
    refine lv_aload_n hx hb dL_law_524 rfl (lv_at hl 0 rfl) ?_
    refine lv_iload hx hb dL_law_525 (lv_at hl 5 rfl) ?_
    refine lv_iconst (v := nI 3) hx hb dL_law_527 (by decide) ?_
    refine lv_iadd hx hb dL_law_528 ?_
    refine xk_i (y := nI (4 * i + 3)) (nI_add _ _) ?_
    refine va_sld hx hb (X_drawn hX) hbl hbA hS (i := nI (4 * i + 3)) (vp_in_nI (by omega) (by omega)) dL_law_529 ?_
    refine xk_i (y := x3) hx3.symm ?_
    refine lv_aload hx hb dL_law_530 (lv_at hl 4 rfl) ?_
    have hPx : va_P D vwCl (XW a cI cZ cD sh sw ts bi it tu ne pr so lo (nI t) (nI n) lp lz lu lk ld lf lb lw) H := hP.sub [0, 1, 2, 3, 4, 5, 6, 7, 8, 9, 10, 11, 12, 13, 14, 15, 16] rfl
    have hDx : va_D (fun q => s.heap.size ≤ q) (XW a cI cZ cD sh sw ts bi it tu ne pr so lo (nI t) (nI n) lp lz lu lk ld lf lb lw) := hD.sub [0, 1, 2, 3, 4, 5, 6, 7, 8, 9, 10, 11, 12, 13, 14, 15, 16] (by decide) rfl
    refine va_calli (vx_runSW (As := [.ref (a 0), .int x1, .int x2, .int x3, .ref o8]) (rest := []) ⟨hx, hb, hml, xk_od hown, dr_words hts _⟩ (mL_replaceX l hst D cI cZ cD a H sh sw ts bi it tu ne pr so lo (nI t) lp lz lu lk ld lf lb lw o8 n hn x1 x2 x3 hg) (vx_cwSW 5 (dr_words hts _) gL_law_L_replace rfl rfl rfl (by decide +kernel) ⟨Nat.le_of_ble_eq_true rfl, Nat.le_of_ble_eq_true rfl⟩) ⟨zq_blind, zq_pre hPx ((yk_Kd hK).sub [0, 1, 2] rfl) hDx hE.drawn hN.drawn hS hA⟩ rfl rfl hl.1 rfl (lv_room (Nat.le_of_ble_eq_true rfl)) dL_law_532 ⟨(by show _ ≤ 1065; omega), (by show _ ≤ 12181; omega)⟩) hS (fun q h1 h2 => absurd h2 (Nat.not_le.mpr h1)) (fun q h => Nat.le_trans hS.1 h) (fun r u t9 H9 locs ht hvm hwr hB hz1 hk1 hS => ?_)
    have hP : va_P D vwCl (WL o9 o8 cJ a b cI cZ cD sh sw ts bi it tu ne pr so lo (nI t) (nI n) lp lz lu lk ld lf lb lw mth sh mst ts mbi mpr mba (nI t) (nI n) it tu lk mus mud mfs mfb mbo mso mpc mne fo fd) H9 := hP.kept (fun k q hq => hk1 q.1 (hP k q hq).lt (Nat.not_le.mpr (hP k q hq).lt))
    generalize H9 = H at hP hS ⊢
    refine lv_istore (lv' := [(6, .int r), (0, .ref b9), (1, .ref (a 0)), (2, .ref (b 0)), (3, .ref o9), (4, .ref o8), (5, .int (nI (4 * i)))]) hx hb dL_law_535 hl (by decide) rfl (fun ls hl => ?_)
    refine lv_aload_n hx hb dL_law_537 rfl (lv_at hl 3 rfl) ?_
    refine lv_aload_n hx hb dL_law_538 rfl (lv_at hl 1 rfl) ?_
    refine lv_iload hx hb dL_law_539 (lv_at hl 6 rfl) ?_
    refine lv_iconst (v := nI 1) hx hb dL_law_541 (by decide) ?_
    refine lv_iadd hx hb dL_law_542 ?_
    refine xk_i (y := nI (4 * i + 1)) (nI_add _ _) ?_
    refine va_sld hx hb (X_drawn hX) hbl hbA hS (i := nI (4 * i + 1)) (vp_in_nI (by omega) (by omega)) dL_law_543 ?_
    refine xk_i (y := x1) hx1.symm ?_
    refine lv_aload_n hx hb dL_law_544 rfl (lv_at hl 1 rfl) ?_
    refine lv_iload hx hb dL_law_545 (lv_at hl 6 rfl) ?_
    refine lv_iconst (v := nI 2) hx hb dL_law_547 (by decide) ?_
    refine lv_iadd hx hb dL_law_548 ?_
    refine xk_i (y := nI (4 * i + 2)) (nI_add _ _) ?_
    refine va_sld hx hb (X_drawn hX) hbl hbA hS (i := nI (4 * i + 2)) (vp_in_nI (by omega) (by omega)) dL_law_549 ?_
    refine xk_i (y := x2) hx2.symm ?_
    refine lv_aload_n hx hb dL_law_550 rfl (lv_at hl 1 rfl) ?_
    refine lv_iload hx hb dL_law_551 (lv_at hl 6 rfl) ?_
    refine lv_iconst (v := nI 3) hx hb dL_law_553 (by decide) ?_
    refine lv_iadd hx hb dL_law_554 ?_
    refine xk_i (y := nI (4 * i + 3)) (nI_add _ _) ?_
    refine va_sld hx hb (X_drawn hX) hbl hbA hS (i := nI (4 * i + 3)) (vp_in_nI (by omega) (by omega)) dL_law_555 ?_
    refine xk_i (y := x3) hx3.symm ?_
    have hPc : va_P D vwCl (MW b cI cZ cD mth sh mst ts mbi mpr mba (nI t) (nI n) it tu lk mus mud mfs mfb mbo mso mpc mne) H := hP.sub [17, 18, 19, 20, 21, 22, 23, 24, 25, 26, 27, 28, 29, 30, 31, 32] rfl
    have hDc : va_D (fun q => s.heap.size ≤ q) (MW b cI cZ cD mth sh mst ts mbi mpr mba (nI t) (nI n) it tu lk mus mud mfs mfb mbo mso mpc mne) := hD.sub [17, 18, 19, 20, 21, 22, 23, 24, 25, 26, 27, 28, 29, 30, 31, 32] (by decide) rfl
    have hFc := va_free (wc := MW b cI cZ cD mth sh mst ts mbi mpr mba (nI t) (nI n) it tu lk mus mud mfs mfb mbo mso mpc mne) hD hS hA [17, 18, 19, 20, 21, 22, 23, 24, 25, 26, 27, 28, 29, 30, 31, 32] rfl
    refine va_calld (va_runV (As := [.int x1, .int x2, .int x3]) (rest := []) ⟨hx, hb, hml, xk_od hown, dr_words hts _⟩ (mX2_replaceX l D cI cZ cD b _ mth sh mst ts mbi mpr mba (nI t) it tu lk mus mud mfs mfb mbo mso mpc mne n hn x1 x2 x3 hg) (cwV 3 (dr_words hts _) gL_law_X2_replace rfl rfl rfl (by decide +kernel) ⟨Nat.le_of_ble_eq_true rfl, Nat.le_of_ble_eq_true rfl⟩) ⟨xk_blind, va_recv (yk_Kd hK) hP (ci := 2) (q0 := 17) rfl rfl, xk_pre hPc ((yk_Kd hK).sub [0, 1, 2] rfl) hDc⟩ rfl rfl hl.1 rfl (lv_room (Nat.le_of_ble_eq_true rfl)) dL_law_556 ⟨(by show _ ≤ 1065; omega), (by show _ ≤ 12181; omega)⟩) hS (fun q _ h => hFc q h) hFc (fun r2 u t9 H locs ht hvm hw hB hz1 hk1 hS => ?_)
    obtain ⟨hP1, -, hD1⟩ := hB
    rw [ht] at hP1
    obtain ⟨hP, hD⟩ := va_join (wr := XW a cI cZ cD sh sw ts bi it tu ne pr so lo (nI t) (nI n) lp lz lu lk ld lf lb lw ++ [(o9, .inl (cJ, 1, .inr (.inl fo))), (o8, .inl (cD, 1, .inr (.inr (.inr (.inl fd)))))]) (w1 := MW b cI cZ cD u sh mst ts mbi mpr mba (nI t) (nI n) it tu lk mus mud mfs mfb mbo mso mpc mne) hP hD [17, 18, 19, 20, 21, 22, 23, 24, 25, 26, 27, 28, 29, 30, 31, 32] [0, 1, 2, 3, 4, 5, 6, 7, 8, 9, 10, 11, 12, 13, 14, 15, 16, 33, 34] rfl rfl (by decide) (by decide) hk1 hFc hP1 hD1
    have hP : va_P D vwCl (WL o9 o8 cJ a b cI cZ cD sh sw ts bi it tu ne pr so lo (nI t) (nI n) lp lz lu lk ld lf lb lw u sh mst ts mbi mpr mba (nI t) (nI n) it tu lk mus mud mfs mfb mbo mso mpc mne fo fd) H := hP.sub [0, 1, 2, 3, 4, 5, 6, 7, 8, 9, 10, 11, 12, 13, 14, 15, 16, 19, 20, 21, 22, 23, 24, 25, 26, 27, 28, 29, 30, 31, 32, 33, 34, 17, 18] rfl
    have hD : va_D (fun q => s.heap.size ≤ q) (WL o9 o8 cJ a b cI cZ cD sh sw ts bi it tu ne pr so lo (nI t) (nI n) lp lz lu lk ld lf lb lw u sh mst ts mbi mpr mba (nI t) (nI n) it tu lk mus mud mfs mfb mbo mso mpc mne fo fd) := hD.sub [0, 1, 2, 3, 4, 5, 6, 7, 8, 9, 10, 11, 12, 13, 14, 15, 16, 19, 20, 21, 22, 23, 24, 25, 26, 27, 28, 29, 30, 31, 32, 33, 34, 17, 18] (by decide) rfl
    refine lv_dstore (lv' := [(7, .double r2), (6, .int r), (0, .ref b9), (1, .ref (a 0)), (2, .ref (b 0)), (3, .ref o9), (4, .ref o8), (5, .int (nI (4 * i)))]) hx hb dL_law_559 hl (by decide) rfl (fun ls hl => ?_)
    have hur : u = r ∧ ¬ r = 0 := three hwr hw
    refine lv_aload_n hx hb dL_law_561 rfl (lv_at hl 4 rfl) ?_
    have hPc : va_P D vwCl (MW b cI cZ cD u sh mst ts mbi mpr mba (nI t) (nI n) it tu lk mus mud mfs mfb mbo mso mpc mne) H := hP.sub [17, 18, 19, 20, 21, 22, 23, 24, 25, 26, 27, 28, 29, 30, 31, 32] rfl
    have hDc : va_D (fun q => s.heap.size ≤ q) (MW b cI cZ cD u sh mst ts mbi mpr mba (nI t) (nI n) it tu lk mus mud mfs mfb mbo mso mpc mne) := hD.sub [17, 18, 19, 20, 21, 22, 23, 24, 25, 26, 27, 28, 29, 30, 31, 32] (by decide) rfl
    have hFc := va_free (wc := MW b cI cZ cD u sh mst ts mbi mpr mba (nI t) (nI n) it tu lk mus mud mfs mfb mbo mso mpc mne) hD hS hA [17, 18, 19, 20, 21, 22, 23, 24, 25, 26, 27, 28, 29, 30, 31, 32] rfl
    refine va_calli (va_runV (As := []) (rest := []) ⟨hx, hb, hml, xk_od hown, dr_words hts _⟩ (mX2_thrown l D cI cZ cD b _ u sh mst ts mbi mpr mba (nI t) (nI n) it tu lk mus mud mfs mfb mbo mso mpc mne ) (cwV 0 (dr_words hts _) gL_law_X2_thrown rfl rfl rfl (by decide +kernel) ⟨Nat.le_of_ble_eq_true rfl, Nat.le_of_ble_eq_true rfl⟩) ⟨xk_blind, va_recv (yk_Kd hK) hP (ci := 2) (q0 := 17) rfl rfl, xk_pre hPc ((yk_Kd hK).sub [0, 1, 2] rfl) hDc⟩ rfl rfl hl.1 rfl (lv_room (Nat.le_of_ble_eq_true rfl)) dL_law_562 ⟨(by show _ ≤ 1065; omega), (by show _ ≤ 12181; omega)⟩) hS (fun q _ h => hFc q h) hFc (fun r8 u8 t9 H locs ht hvm hw hB hz1 hk1 hS => ?_)
    obtain ⟨hP1, -, hD1⟩ := hB
    rw [ht] at hP1
    obtain ⟨hP, hD⟩ := va_join (wr := XW a cI cZ cD sh sw ts bi it tu ne pr so lo (nI t) (nI n) lp lz lu lk ld lf lb lw ++ [(o9, .inl (cJ, 1, .inr (.inl fo))), (o8, .inl (cD, 1, .inr (.inr (.inr (.inl fd)))))]) (w1 := MW b cI cZ cD u sh mst ts mbi mpr mba (nI t) (nI n) it tu lk mus mud mfs mfb mbo mso mpc mne) hP hD [17, 18, 19, 20, 21, 22, 23, 24, 25, 26, 27, 28, 29, 30, 31, 32] [0, 1, 2, 3, 4, 5, 6, 7, 8, 9, 10, 11, 12, 13, 14, 15, 16, 33, 34] rfl rfl (by decide) (by decide) hk1 hFc hP1 hD1
    have hP : va_P D vwCl (WL o9 o8 cJ a b cI cZ cD sh sw ts bi it tu ne pr so lo (nI t) (nI n) lp lz lu lk ld lf lb lw u sh mst ts mbi mpr mba (nI t) (nI n) it tu lk mus mud mfs mfb mbo mso mpc mne fo fd) H := hP.sub [0, 1, 2, 3, 4, 5, 6, 7, 8, 9, 10, 11, 12, 13, 14, 15, 16, 19, 20, 21, 22, 23, 24, 25, 26, 27, 28, 29, 30, 31, 32, 33, 34, 17, 18] rfl
    have hD : va_D (fun q => s.heap.size ≤ q) (WL o9 o8 cJ a b cI cZ cD sh sw ts bi it tu ne pr so lo (nI t) (nI n) lp lz lu lk ld lf lb lw u sh mst ts mbi mpr mba (nI t) (nI n) it tu lk mus mud mfs mfb mbo mso mpc mne fo fd) := hD.sub [0, 1, 2, 3, 4, 5, 6, 7, 8, 9, 10, 11, 12, 13, 14, 15, 16, 19, 20, 21, 22, 23, 24, 25, 26, 27, 28, 29, 30, 31, 32, 33, 34, 17, 18] (by decide) rfl
    refine xk_i (y := u) hw ?_
    refine lv_iload hx hb dL_law_565 (lv_at hl 1 rfl) ?_
    refine lv_icmp_eq (tgt := 572) hx hb dL_law_567 (by decide) (fun c => ?_) (fun c => absurd hur.1 c)
    refine lv_iload hx hb dL_law_572 (lv_at hl 1 rfl) ?_
    refine lv_if_ne (tgt := 609) hx hb dL_law_574 (by decide) (fun c => ?_) (fun c => absurd c hur.2)
    refine lv_goto (tgt := 1232) hx hb dL_law_609 (by decide) ?_
    refine lv_iinc (v := nI (4 * (i + 1))) (lv' := [(5, .int (nI (4 * (i + 1)))), (7, .double r2), (6, .int r), (0, .ref b9), (1, .ref (a 0)), (2, .ref (b 0)), (3, .ref o9), (4, .ref o8)]) hx hb dL_law_1232 hl (k := 7) rfl (iinc4 i) (by decide) rfl (fun ls hl => ?_)
    refine lv_goto (tgt := 28) hx hb dL_law_1235 (by decide) ?_
    refine W.widen (k := 35 + (i + 1)) (n := 3953 + 6 * (i + 1)) (by omega) (by omega) ?_
    exact next _ _ _ _ ⟨n, t, sh, sw, ts, bi, it, tu, ne, pr, so, lo, lp, lz, lu, lk, ld, lf, lb, lw, u, mst, mbi, mpr, mba, mus, mud, mfs, mfb, mbo, mso, mpc, mne, fo, fd, ⟨hn, ht5, hsm, hsw, hit, hbi, hpr, hso, hlu, hld, hlf, hlz9, hlb, hlw, hlz, hlp⟩, hP, hD, hS, hdl, lv_sub hl [3, 4, 5, 6, 7, 0] rfl⟩
