/-! THE LAW, case by case -/
theorem xk_d {p : Program} {l : Launch} {e : Env} {R : Room} {s : State} {m : MethodId} {args : Array Value} {below : List Frame} {meth : Method} {c : Code} {H : Heap} {locs : List Loc} {cells slots : Nat} {Q : State → Prop} {pc : Nat} {ls : Array Slot} {rest : List Value} {x y : UInt64} (h : x = y) (k : W p l e R s m args below meth c H locs cells slots Q (F0 m pc ls (.double y :: rest))) : W p l e R s m args below meth c H locs cells slots Q (F0 m pc ls (.double x :: rest)) := h ▸ k
theorem upd01 {f : Nat → Int32} {x : Int32} (h : ∀ j, f j = 0 ∨ f j = 1) (hx : x = 0 ∨ x = 1) (o : Nat) : ∀ j, upd f o x j = 0 ∨ upd f o x j = 1 := by
  intro j
  unfold upd
  by_cases c : j = o
  · rw [if_pos c]; exact hx
  · rw [if_neg c]; exact h j
theorem sw_up {sw mst : Nat → Int32} {x : Int32} {o : Nat} (h : ∀ k, k < 5 → sw k = bI (mst k = 0)) (hx : x = 0 ∨ x = 1) : ∀ k, k < 5 → upd sw o x k = bI (upd mst o (bI (x = 0)) k = 0) := by
  intro k hk
  unfold upd
  by_cases c : k = o
  · rw [if_pos c, if_pos c]
    rcases hx with rfl | rfl <;> decide
  · rw [if_neg c, if_neg c]; exact h k hk
theorem po01 {f : Nat → Int32} (h : ∀ j, f j = 0 ∨ f j = 1) (n : Nat) : ∀ j, po 0 n f (fun _ => 0) j = 0 ∨ po 0 n f (fun _ => 0) j = 1 := by
  intro j
  unfold po
  by_cases c : 0 ≤ j ∧ j < 0 + n
  · rw [if_pos c]; exact Or.inl rfl
  · rw [if_neg c]; exact h j
set_option maxHeartbeats 4000000 in
set_option maxRecDepth 100000 in
theorem ls_0 {p : Program} {l : Launch} {e : Env} {s : State} {m : MethodId} {below : List Frame} {meth : Method} {c : Code} {b9 L : Nat} {xs : Nat → Int32} {D : va_G} {cI cZ cD cJ : ClassId} (C : LC l p s m meth c b9 L xs D cI cZ cD cJ) {a b : Nat → Nat} {o9 o8 i : Nat} (hi4 : 4 * i + 4 ≤ L) {H : Heap} {locs : List Loc} {ls : Array Slot} {d : Drawn} (hI : LInv s D cI cZ cD cJ a b b9 o9 o8 i H locs ls d) (next : ∀ (H' : Heap) (locs' : List Loc) (ls' : Array Slot) (d' : Drawn), LInv s D cI cZ cD cJ a b b9 o9 o8 (i + 1) H' locs' ls' d' → W p l e room_1 (s.setDrawn d') m #[Value.ref b9] below meth c H' locs' (35 + (i + 1)) (3953 + 6 * (i + 1)) (lw_Z below #[Value.ref b9] s) (F0 m 28 ls' [])) : W p l e room_1 (s.setDrawn d) m #[Value.ref b9] below meth c H locs (35 + i) (3953 + 6 * i) (lw_Z below #[Value.ref b9] s) (F0 m 124 ls []) := by
  obtain ⟨hst, hL, C0, hE, hN, hK⟩ := C
  obtain ⟨hx, hb, hr, hml, hown, hts0, hX, hbl, hlocks, hgv⟩ := C0
  have hts : ∀ w ∈ wsL_law, w.before #[Value.ref b9] s = true := fun w h => hts0 w (wsL_law_in w h)
  obtain ⟨n, t, sh, sw, ts, bi, it, tu, ne, pr, so, lo, lp, lz, lu, lk, ld, lf, lb, lw, mth, mst, mbi, mpr, mba, mus, mud, mfs, mfb, mbo, mso, mpc, mne, fo, fd, ⟨hn, ht5, hsm, hsw, hit, hbi, hpr, hso, hlu, hld, hlf, hlz9, hlb, hlw, hlz, hlp⟩, hP, hD, hS, hdl, hl⟩ := hI
  have hA : ∀ q : Nat, s.heap.size ≤ q → (fun q => s.heap.size ≤ q) q := fun q h => h
  have hbA : ¬ (fun q => s.heap.size ≤ q) b9 := Nat.not_le.mpr hbl
  obtain ⟨x1, hx1⟩ : ∃ x, x = xs (nI (4 * i + 1)).toNatClampNeg := ⟨_, rfl⟩
  obtain ⟨x2, hx2⟩ : ∃ x, x = xs (nI (4 * i + 2)).toNatClampNeg := ⟨_, rfl⟩
  by_cases hg : inR x1 0 4 ∧ inR x2 0 4 ∧ okS sh x1 x2
  · skip
    obtain ⟨g1, g2, g3⟩ := hg
    obtain ⟨o, ho4, rfl⟩ := inR_nI (n := 4) (by decide) g1
    have ho : o < 5 := by omega
    refine lv_aload_n hx hb dL_law_124 rfl (lv_at hl 1 rfl) ?_
    refine lv_aload_n hx hb dL_law_125 rfl (lv_at hl 0 rfl) ?_
    refine lv_iload hx hb dL_law_126 (lv_at hl 5 rfl) ?_
    refine lv_iconst (v := nI 1) hx hb dL_law_128 (by decide) ?_
    refine lv_iadd hx hb dL_law_129 ?_
    refine xk_i (y := nI (4 * i + 1)) (nI_add _ _) ?_
    refine va_sld hx hb (X_drawn hX) hbl hbA hS (i := nI (4 * i + 1)) (vp_in_nI (by omega) (by omega)) dL_law_130 ?_
    refine xk_i (y := nI o) hx1.symm ?_
    refine lv_aload_n hx hb dL_law_131 rfl (lv_at hl 0 rfl) ?_
    refine lv_iload hx hb dL_law_132 (lv_at hl 5 rfl) ?_
    refine lv_iconst (v := nI 2) hx hb dL_law_134 (by decide) ?_
    refine lv_iadd hx hb dL_law_135 ?_
    refine xk_i (y := nI (4 * i + 2)) (nI_add _ _) ?_
    refine va_sld hx hb (X_drawn hX) hbl hbA hS (i := nI (4 * i + 2)) (vp_in_nI (by omega) (by omega)) dL_law_136 ?_
    refine xk_i (y := x2) hx2.symm ?_
    refine lv_aload_n hx hb dL_law_137 rfl (lv_at hl 3 rfl) ?_
    have hPc : va_P D vwCl (XWJ o9 cJ a cI cZ cD sh sw ts bi it tu ne pr so lo (nI t) (nI n) lp lz lu lk ld lf lb lw fo) H := hP.sub [0, 1, 2, 3, 4, 5, 6, 7, 8, 9, 10, 11, 12, 13, 14, 15, 16, 33] rfl
    have hDc : va_D (fun q => s.heap.size ≤ q) (XWJ o9 cJ a cI cZ cD sh sw ts bi it tu ne pr so lo (nI t) (nI n) lp lz lu lk ld lf lb lw fo) := hD.sub [0, 1, 2, 3, 4, 5, 6, 7, 8, 9, 10, 11, 12, 13, 14, 15, 16, 33] (by decide) rfl
    have hFc := va_free (wc := XWJ o9 cJ a cI cZ cD sh sw ts bi it tu ne pr so lo (nI t) (nI n) lp lz lu lk ld lf lb lw fo) hD hS hA [0, 1, 2, 3, 4, 5, 6, 7, 8, 9, 10, 11, 12, 13, 14, 15, 16, 33] rfl
    refine va_calli (vx_runSW (As := [.ref (a 0), .int (nI o), .int x2, .ref o9]) (rest := []) ⟨hx, hb, hml, xk_od hown, dr_words hts _⟩ (mL_setShareV l D cI cZ cD cJ a o9 _ sh sw ts bi it tu ne pr so lo (nI t) (nI n) lp lz lu lk ld lf lb lw fo o x2 ho g2 g3) (vx_cwSW 4 (dr_words hts _) gL_law_L_setShare rfl rfl rfl (by decide +kernel) ⟨Nat.le_of_ble_eq_true rfl, Nat.le_of_ble_eq_true rfl⟩) ⟨yk_blind, yk_pre hPc (yk_Kd hK) hDc⟩ rfl rfl hl.1 rfl (lv_room (Nat.le_of_ble_eq_true rfl)) dL_law_138 ⟨(by show _ ≤ 1065; omega), (by show _ ≤ 12181; omega)⟩) hS (fun q _ h => hFc q h) hFc (fun r u t9 H locs ht hvm hw hB hz1 hk1 hS => ?_)
    obtain ⟨z, fo1⟩ := u
    obtain ⟨rfl, hv1, hv2⟩ := hw
    dsimp only at hv1 hv2
    obtain ⟨hP1, -, hD1⟩ := hB
    rw [ht] at hP1
    obtain ⟨hP, hD⟩ := va_join (wr := MW b cI cZ cD mth sh mst ts mbi mpr mba (nI t) (nI n) it tu lk mus mud mfs mfb mbo mso mpc mne ++ [(o8, .inl (cD, 1, .inr (.inr (.inr (.inl fd)))))]) (w1 := XWJ o9 cJ a cI cZ cD (upd sh o x2) sw ts bi it tu ne pr so lo (nI t) (nI n) lp lz lu lk ld lf lb lw fo1) hP hD [0, 1, 2, 3, 4, 5, 6, 7, 8, 9, 10, 11, 12, 13, 14, 15, 16, 33] [17, 18, 19, 20, 21, 22, 23, 24, 25, 26, 27, 28, 29, 30, 31, 32, 34] rfl rfl (by decide) (by decide) hk1 hFc hP1 hD1
    have hP : va_P D vwCl (WL o9 o8 cJ a b cI cZ cD (upd sh o x2) sw ts bi it tu ne pr so lo (nI t) (nI n) lp lz lu lk ld lf lb lw mth sh mst ts mbi mpr mba (nI t) (nI n) it tu lk mus mud mfs mfb mbo mso mpc mne fo1 fd) H := hP.sub [17, 18, 19, 20, 21, 22, 23, 24, 25, 26, 27, 28, 29, 30, 31, 32, 33, 0, 1, 2, 3, 4, 5, 6, 7, 8, 9, 10, 11, 12, 13, 14, 15, 34, 16] rfl
    have hD : va_D (fun q => s.heap.size ≤ q) (WL o9 o8 cJ a b cI cZ cD (upd sh o x2) sw ts bi it tu ne pr so lo (nI t) (nI n) lp lz lu lk ld lf lb lw mth sh mst ts mbi mpr mba (nI t) (nI n) it tu lk mus mud mfs mfb mbo mso mpc mne fo1 fd) := hD.sub [17, 18, 19, 20, 21, 22, 23, 24, 25, 26, 27, 28, 29, 30, 31, 32, 33, 0, 1, 2, 3, 4, 5, 6, 7, 8, 9, 10, 11, 12, 13, 14, 15, 34, 16] (by decide) rfl
    refine lv_istore (lv' := [(6, .int 0), (0, .ref b9), (1, .ref (a 0)), (2, .ref (b 0)), (3, .ref o9), (4, .ref o8), (5, .int (nI (4 * i)))]) hx hb dL_law_141 hl (by decide) rfl (fun ls hl => ?_)
    refine lv_aload_n hx hb dL_law_143 rfl (lv_at hl 3 rfl) ?_
    refine lv_aload_n hx hb dL_law_144 rfl (lv_at hl 1 rfl) ?_
    refine lv_iload hx hb dL_law_145 (lv_at hl 6 rfl) ?_
    refine lv_iconst (v := nI 1) hx hb dL_law_147 (by decide) ?_
    refine lv_iadd hx hb dL_law_148 ?_
    refine xk_i (y := nI (4 * i + 1)) (nI_add _ _) ?_
    refine va_sld hx hb (X_drawn hX) hbl hbA hS (i := nI (4 * i + 1)) (vp_in_nI (by omega) (by omega)) dL_law_149 ?_
    refine xk_i (y := nI o) hx1.symm ?_
    refine lv_aload_n hx hb dL_law_150 rfl (lv_at hl 1 rfl) ?_
    refine lv_iload hx hb dL_law_151 (lv_at hl 6 rfl) ?_
    refine lv_iconst (v := nI 2) hx hb dL_law_153 (by decide) ?_
    refine lv_iadd hx hb dL_law_154 ?_
    refine xk_i (y := nI (4 * i + 2)) (nI_add _ _) ?_
    refine va_sld hx hb (X_drawn hX) hbl hbA hS (i := nI (4 * i + 2)) (vp_in_nI (by omega) (by omega)) dL_law_155 ?_
    refine xk_i (y := x2) hx2.symm ?_
    have hPc : va_P D vwCl (MW b cI cZ cD mth sh mst ts mbi mpr mba (nI t) (nI n) it tu lk mus mud mfs mfb mbo mso mpc mne) H := hP.sub [17, 18, 19, 20, 21, 22, 23, 24, 25, 26, 27, 28, 29, 30, 31, 32] rfl
    have hDc : va_D (fun q => s.heap.size ≤ q) (MW b cI cZ cD mth sh mst ts mbi mpr mba (nI t) (nI n) it tu lk mus mud mfs mfb mbo mso mpc mne) := hD.sub [17, 18, 19, 20, 21, 22, 23, 24, 25, 26, 27, 28, 29, 30, 31, 32] (by decide) rfl
    have hFc := va_free (wc := MW b cI cZ cD mth sh mst ts mbi mpr mba (nI t) (nI n) it tu lk mus mud mfs mfb mbo mso mpc mne) hD hS hA [17, 18, 19, 20, 21, 22, 23, 24, 25, 26, 27, 28, 29, 30, 31, 32] rfl
    refine va_calli (va_runV (As := [.int (nI o), .int x2]) (rest := []) ⟨hx, hb, hml, xk_od hown, dr_words hts _⟩ (mX2_setShareV l D cI cZ cD b _ mth sh mst ts mbi mpr mba (nI t) (nI n) it tu lk mus mud mfs mfb mbo mso mpc mne o x2 ho g2 g3) (cwV 2 (dr_words hts _) gL_law_X2_setShare rfl rfl rfl (by decide +kernel) ⟨Nat.le_of_ble_eq_true rfl, Nat.le_of_ble_eq_true rfl⟩) ⟨xk_blind, va_recv (yk_Kd hK) hP (ci := 2) (q0 := 17) rfl rfl, xk_pre hPc ((yk_Kd hK).sub [0, 1, 2] rfl) hDc⟩ rfl rfl hl.1 rfl (lv_room (Nat.le_of_ble_eq_true rfl)) dL_law_156 ⟨(by show _ ≤ 1065; omega), (by show _ ≤ 12181; omega)⟩) hS (fun q _ h => hFc q h) hFc (fun r2 u t9 H locs ht hvm hw hB hz1 hk1 hS => ?_)
    obtain ⟨hP1, -, hD1⟩ := hB
    rw [ht] at hP1
    obtain ⟨hP, hD⟩ := va_join (wr := XW a cI cZ cD (upd sh o x2) sw ts bi it tu ne pr so lo (nI t) (nI n) lp lz lu lk ld lf lb lw ++ [(o9, .inl (cJ, 1, .inr (.inl fo1))), (o8, .inl (cD, 1, .inr (.inr (.inr (.inl fd)))))]) (w1 := MW b cI cZ cD 0 (upd sh o x2) mst ts mbi mpr mba (nI t) (nI n) it tu lk mus mud mfs mfb mbo mso mpc mne) hP hD [17, 18, 19, 20, 21, 22, 23, 24, 25, 26, 27, 28, 29, 30, 31, 32] [0, 1, 2, 3, 4, 5, 6, 7, 8, 9, 10, 11, 12, 13, 14, 15, 16, 33, 34] rfl rfl (by decide) (by decide) hk1 hFc hP1 hD1
    have hP : va_P D vwCl (WL o9 o8 cJ a b cI cZ cD (upd sh o x2) sw ts bi it tu ne pr so lo (nI t) (nI n) lp lz lu lk ld lf lb lw 0 (upd sh o x2) mst ts mbi mpr mba (nI t) (nI n) it tu lk mus mud mfs mfb mbo mso mpc mne fo1 fd) H := hP.sub [0, 1, 2, 3, 4, 5, 6, 7, 8, 9, 10, 11, 12, 13, 14, 15, 16, 19, 20, 21, 22, 23, 24, 25, 26, 27, 28, 29, 30, 31, 32, 33, 34, 17, 18] rfl
    have hD : va_D (fun q => s.heap.size ≤ q) (WL o9 o8 cJ a b cI cZ cD (upd sh o x2) sw ts bi it tu ne pr so lo (nI t) (nI n) lp lz lu lk ld lf lb lw 0 (upd sh o x2) mst ts mbi mpr mba (nI t) (nI n) it tu lk mus mud mfs mfb mbo mso mpc mne fo1 fd) := hD.sub [0, 1, 2, 3, 4, 5, 6, 7, 8, 9, 10, 11, 12, 13, 14, 15, 16, 19, 20, 21, 22, 23, 24, 25, 26, 27, 28, 29, 30, 31, 32, 33, 34, 17, 18] (by decide) rfl
    subst hw
    refine lv_istore (lv' := [(7, .int (sh o)), (6, .int 0), (0, .ref b9), (1, .ref (a 0)), (2, .ref (b 0)), (3, .ref o9), (4, .ref o8), (5, .int (nI (4 * i)))]) hx hb dL_law_159 hl (by decide) rfl (fun ls hl => ?_)
    refine lv_aload_n hx hb dL_law_161 rfl (lv_at hl 4 rfl) ?_
    have hPc : va_P D vwCl (MW b cI cZ cD 0 (upd sh o x2) mst ts mbi mpr mba (nI t) (nI n) it tu lk mus mud mfs mfb mbo mso mpc mne) H := hP.sub [17, 18, 19, 20, 21, 22, 23, 24, 25, 26, 27, 28, 29, 30, 31, 32] rfl
    have hDc : va_D (fun q => s.heap.size ≤ q) (MW b cI cZ cD 0 (upd sh o x2) mst ts mbi mpr mba (nI t) (nI n) it tu lk mus mud mfs mfb mbo mso mpc mne) := hD.sub [17, 18, 19, 20, 21, 22, 23, 24, 25, 26, 27, 28, 29, 30, 31, 32] (by decide) rfl
    have hFc := va_free (wc := MW b cI cZ cD 0 (upd sh o x2) mst ts mbi mpr mba (nI t) (nI n) it tu lk mus mud mfs mfb mbo mso mpc mne) hD hS hA [17, 18, 19, 20, 21, 22, 23, 24, 25, 26, 27, 28, 29, 30, 31, 32] rfl
    refine va_calli (va_runV (As := []) (rest := []) ⟨hx, hb, hml, xk_od hown, dr_words hts _⟩ (mX2_thrown l D cI cZ cD b _ 0 (upd sh o x2) mst ts mbi mpr mba (nI t) (nI n) it tu lk mus mud mfs mfb mbo mso mpc mne ) (cwV 0 (dr_words hts _) gL_law_X2_thrown rfl rfl rfl (by decide +kernel) ⟨Nat.le_of_ble_eq_true rfl, Nat.le_of_ble_eq_true rfl⟩) ⟨xk_blind, va_recv (yk_Kd hK) hP (ci := 2) (q0 := 17) rfl rfl, xk_pre hPc ((yk_Kd hK).sub [0, 1, 2] rfl) hDc⟩ rfl rfl hl.1 rfl (lv_room (Nat.le_of_ble_eq_true rfl)) dL_law_162 ⟨(by show _ ≤ 1065; omega), (by show _ ≤ 12181; omega)⟩) hS (fun q _ h => hFc q h) hFc (fun r8 u8 t9 H locs ht hvm hw hB hz1 hk1 hS => ?_)
    obtain ⟨hP1, -, hD1⟩ := hB
    rw [ht] at hP1
    obtain ⟨hP, hD⟩ := va_join (wr := XW a cI cZ cD (upd sh o x2) sw ts bi it tu ne pr so lo (nI t) (nI n) lp lz lu lk ld lf lb lw ++ [(o9, .inl (cJ, 1, .inr (.inl fo1))), (o8, .inl (cD, 1, .inr (.inr (.inr (.inl fd)))))]) (w1 := MW b cI cZ cD 0 (upd sh o x2) mst ts mbi mpr mba (nI t) (nI n) it tu lk mus mud mfs mfb mbo mso mpc mne) hP hD [17, 18, 19, 20, 21, 22, 23, 24, 25, 26, 27, 28, 29, 30, 31, 32] [0, 1, 2, 3, 4, 5, 6, 7, 8, 9, 10, 11, 12, 13, 14, 15, 16, 33, 34] rfl rfl (by decide) (by decide) hk1 hFc hP1 hD1
    have hP : va_P D vwCl (WL o9 o8 cJ a b cI cZ cD (upd sh o x2) sw ts bi it tu ne pr so lo (nI t) (nI n) lp lz lu lk ld lf lb lw 0 (upd sh o x2) mst ts mbi mpr mba (nI t) (nI n) it tu lk mus mud mfs mfb mbo mso mpc mne fo1 fd) H := hP.sub [0, 1, 2, 3, 4, 5, 6, 7, 8, 9, 10, 11, 12, 13, 14, 15, 16, 19, 20, 21, 22, 23, 24, 25, 26, 27, 28, 29, 30, 31, 32, 33, 34, 17, 18] rfl
    have hD : va_D (fun q => s.heap.size ≤ q) (WL o9 o8 cJ a b cI cZ cD (upd sh o x2) sw ts bi it tu ne pr so lo (nI t) (nI n) lp lz lu lk ld lf lb lw 0 (upd sh o x2) mst ts mbi mpr mba (nI t) (nI n) it tu lk mus mud mfs mfb mbo mso mpc mne fo1 fd) := hD.sub [0, 1, 2, 3, 4, 5, 6, 7, 8, 9, 10, 11, 12, 13, 14, 15, 16, 19, 20, 21, 22, 23, 24, 25, 26, 27, 28, 29, 30, 31, 32, 33, 34, 17, 18] (by decide) rfl
    refine xk_i (y := 0) hw ?_
    refine lv_iload hx hb dL_law_165 (lv_at hl 1 rfl) ?_
    refine lv_icmp_eq (tgt := 172) hx hb dL_law_167 (by decide) (fun c => ?_) (fun c => absurd rfl c)
    refine lv_iload hx hb dL_law_172 (lv_at hl 1 rfl) ?_
    refine lv_if_ne (tgt := 189) hx hb dL_law_174 (by decide) (fun c => absurd rfl c) (fun c => ?_)
    refine lv_aload_n hx hb dL_law_177 rfl (lv_at hl 5 rfl) ?_
    refine lv_iconst (v := nI 0) hx hb dL_law_178 (by decide) ?_
    refine va_lald hx hb (yk_Kd hK) hP 33 3 rfl rfl (i := nI 0) (vp_in_nI (by decide) (by decide)) dL_law_179 ?_
    refine xk_l (y := (sh o).toInt64) hv1 ?_
    refine lv_iload hx hb dL_law_180 (lv_at hl 0 rfl) ?_
    refine lv_i2l (v := (sh o).toInt64) hx hb dL_law_182 rfl ?_
    refine W.lcmp hx hb dL_law_183 ?_
    refine xk_i (y := 0) (lcmp_self _) ?_
    refine lv_if_eq (tgt := 189) hx hb dL_law_184 (by decide) (fun c => ?_) (fun c => absurd rfl c)
    refine lv_goto (tgt := 1232) hx hb dL_law_189 (by decide) ?_
    refine lv_iinc (v := nI (4 * (i + 1))) (lv' := [(5, .int (nI (4 * (i + 1)))), (7, .int (sh o)), (6, .int 0), (0, .ref b9), (1, .ref (a 0)), (2, .ref (b 0)), (3, .ref o9), (4, .ref o8)]) hx hb dL_law_1232 hl (k := 7) rfl (iinc4 i) (by decide) rfl (fun ls hl => ?_)
    refine lv_goto (tgt := 28) hx hb dL_law_1235 (by decide) ?_
    refine W.widen (k := 35 + (i + 1)) (n := 3953 + 6 * (i + 1)) (by omega) (by omega) ?_
    exact next _ _ _ _ ⟨n, t, upd sh o x2, sw, ts, bi, it, tu, ne, pr, so, lo, lp, lz, lu, lk, ld, lf, lb, lw, 0, mst, mbi, mpr, mba, mus, mud, mfs, mfb, mbo, mso, mpc, mne, fo1, fd, ⟨hn, ht5, hsm, hsw, hit, hbi, hpr, hso, hlu, hld, hlf, hlz9, hlb, hlw, hlz, hlp⟩, hP, hD, hS, hdl, lv_sub hl [3, 4, 5, 6, 7, 0] rfl⟩
  · skip
    refine lv_aload_n hx hb dL_law_124 rfl (lv_at hl 1 rfl) ?_
    refine lv_aload_n hx hb dL_law_125 rfl (lv_at hl 0 rfl) ?_
    refine lv_iload hx hb dL_law_126 (lv_at hl 5 rfl) ?_
    refine lv_iconst (v := nI 1) hx hb dL_law_128 (by decide) ?_
    refine lv_iadd hx hb dL_law_129 ?_
    refine xk_i (y := nI (4 * i + 1)) (nI_add _ _) ?_
    refine va_sld hx hb (X_drawn hX) hbl hbA hS (i := nI (4 * i + 1)) (vp_in_nI (by omega) (by omega)) dL_law_130 ?_
    refine xk_i (y := x1) hx1.symm ?_
    refine lv_aload_n hx hb dL_law_131 rfl (lv_at hl 0 rfl) ?_
    refine lv_iload hx hb dL_law_132 (lv_at hl 5 rfl) ?_
    refine lv_iconst (v := nI 2) hx hb dL_law_134 (by decide) ?_
    refine lv_iadd hx hb dL_law_135 ?_
    refine xk_i (y := nI (4 * i + 2)) (nI_add _ _) ?_
    refine va_sld hx hb (X_drawn hX) hbl hbA hS (i := nI (4 * i + 2)) (vp_in_nI (by omega) (by omega)) dL_law_136 ?_
    refine xk_i (y := x2) hx2.symm ?_
    refine lv_aload_n hx hb dL_law_137 rfl (lv_at hl 3 rfl) ?_
    have hPx : va_P D vwCl (XW a cI cZ cD sh sw ts bi it tu ne pr so lo (nI t) (nI n) lp lz lu lk ld lf lb lw) H := hP.sub [0, 1, 2, 3, 4, 5, 6, 7, 8, 9, 10, 11, 12, 13, 14, 15, 16] rfl
    have hDx : va_D (fun q => s.heap.size ≤ q) (XW a cI cZ cD sh sw ts bi it tu ne pr so lo (nI t) (nI n) lp lz lu lk ld lf lb lw) := hD.sub [0, 1, 2, 3, 4, 5, 6, 7, 8, 9, 10, 11, 12, 13, 14, 15, 16] (by decide) rfl
    refine va_calli (vx_runSW (As := [.ref (a 0), .int x1, .int x2, .ref o9]) (rest := []) ⟨hx, hb, hml, xk_od hown, dr_words hts _⟩ (mL_setShareX l hst D cI cZ cD a H sh sw ts bi it tu ne pr so lo (nI t) (nI n) lp lz lu lk ld lf lb lw o9 x1 x2 hg) (vx_cwSW 4 (dr_words hts _) gL_law_L_setShare rfl rfl rfl (by decide +kernel) ⟨Nat.le_of_ble_eq_true rfl, Nat.le_of_ble_eq_true rfl⟩) ⟨zq_blind, zq_pre hPx ((yk_Kd hK).sub [0, 1, 2] rfl) hDx hE.drawn hN.drawn hS hA⟩ rfl rfl hl.1 rfl (lv_room (Nat.le_of_ble_eq_true rfl)) dL_law_138 ⟨(by show _ ≤ 1065; omega), (by show _ ≤ 12181; omega)⟩) hS (fun q h1 h2 => absurd h2 (Nat.not_le.mpr h1)) (fun q h => Nat.le_trans hS.1 h) (fun r u t9 H9 locs ht hvm hwr hB hz1 hk1 hS => ?_)
    have hP : va_P D vwCl (WL o9 o8 cJ a b cI cZ cD sh sw ts bi it tu ne pr so lo (nI t) (nI n) lp lz lu lk ld lf lb lw mth sh mst ts mbi mpr mba (nI t) (nI n) it tu lk mus mud mfs mfb mbo mso mpc mne fo fd) H9 := hP.kept (fun k q hq => hk1 q.1 (hP k q hq).lt (Nat.not_le.mpr (hP k q hq).lt))
    generalize H9 = H at hP hS ⊢
    refine lv_istore (lv' := [(6, .int r), (0, .ref b9), (1, .ref (a 0)), (2, .ref (b 0)), (3, .ref o9), (4, .ref o8), (5, .int (nI (4 * i)))]) hx hb dL_law_141 hl (by decide) rfl (fun ls hl => ?_)
    refine lv_aload_n hx hb dL_law_143 rfl (lv_at hl 3 rfl) ?_
    refine lv_aload_n hx hb dL_law_144 rfl (lv_at hl 1 rfl) ?_
    refine lv_iload hx hb dL_law_145 (lv_at hl 6 rfl) ?_
    refine lv_iconst (v := nI 1) hx hb dL_law_147 (by decide) ?_
    refine lv_iadd hx hb dL_law_148 ?_
    refine xk_i (y := nI (4 * i + 1)) (nI_add _ _) ?_
    refine va_sld hx hb (X_drawn hX) hbl hbA hS (i := nI (4 * i + 1)) (vp_in_nI (by omega) (by omega)) dL_law_149 ?_
    refine xk_i (y := x1) hx1.symm ?_
    refine lv_aload_n hx hb dL_law_150 rfl (lv_at hl 1 rfl) ?_
    refine lv_iload hx hb dL_law_151 (lv_at hl 6 rfl) ?_
    refine lv_iconst (v := nI 2) hx hb dL_law_153 (by decide) ?_
    refine lv_iadd hx hb dL_law_154 ?_
    refine xk_i (y := nI (4 * i + 2)) (nI_add _ _) ?_
    refine va_sld hx hb (X_drawn hX) hbl hbA hS (i := nI (4 * i + 2)) (vp_in_nI (by omega) (by omega)) dL_law_155 ?_
    refine xk_i (y := x2) hx2.symm ?_
    have hPc : va_P D vwCl (MW b cI cZ cD mth sh mst ts mbi mpr mba (nI t) (nI n) it tu lk mus mud mfs mfb mbo mso mpc mne) H := hP.sub [17, 18, 19, 20, 21, 22, 23, 24, 25, 26, 27, 28, 29, 30, 31, 32] rfl
    have hDc : va_D (fun q => s.heap.size ≤ q) (MW b cI cZ cD mth sh mst ts mbi mpr mba (nI t) (nI n) it tu lk mus mud mfs mfb mbo mso mpc mne) := hD.sub [17, 18, 19, 20, 21, 22, 23, 24, 25, 26, 27, 28, 29, 30, 31, 32] (by decide) rfl
    have hFc := va_free (wc := MW b cI cZ cD mth sh mst ts mbi mpr mba (nI t) (nI n) it tu lk mus mud mfs mfb mbo mso mpc mne) hD hS hA [17, 18, 19, 20, 21, 22, 23, 24, 25, 26, 27, 28, 29, 30, 31, 32] rfl
    refine va_calli (va_runV (As := [.int x1, .int x2]) (rest := []) ⟨hx, hb, hml, xk_od hown, dr_words hts _⟩ (mX2_setShareX l D cI cZ cD b _ mth sh mst ts mbi mpr mba (nI t) (nI n) it tu lk mus mud mfs mfb mbo mso mpc mne x1 x2 hg) (cwV 2 (dr_words hts _) gL_law_X2_setShare rfl rfl rfl (by decide +kernel) ⟨Nat.le_of_ble_eq_true rfl, Nat.le_of_ble_eq_true rfl⟩) ⟨xk_blind, va_recv (yk_Kd hK) hP (ci := 2) (q0 := 17) rfl rfl, xk_pre hPc ((yk_Kd hK).sub [0, 1, 2] rfl) hDc⟩ rfl rfl hl.1 rfl (lv_room (Nat.le_of_ble_eq_true rfl)) dL_law_156 ⟨(by show _ ≤ 1065; omega), (by show _ ≤ 12181; omega)⟩) hS (fun q _ h => hFc q h) hFc (fun r2 u t9 H locs ht hvm hw hB hz1 hk1 hS => ?_)
    obtain ⟨hP1, -, hD1⟩ := hB
    rw [ht] at hP1
    obtain ⟨hP, hD⟩ := va_join (wr := XW a cI cZ cD sh sw ts bi it tu ne pr so lo (nI t) (nI n) lp lz lu lk ld lf lb lw ++ [(o9, .inl (cJ, 1, .inr (.inl fo))), (o8, .inl (cD, 1, .inr (.inr (.inr (.inl fd)))))]) (w1 := MW b cI cZ cD u sh mst ts mbi mpr mba (nI t) (nI n) it tu lk mus mud mfs mfb mbo mso mpc mne) hP hD [17, 18, 19, 20, 21, 22, 23, 24, 25, 26, 27, 28, 29, 30, 31, 32] [0, 1, 2, 3, 4, 5, 6, 7, 8, 9, 10, 11, 12, 13, 14, 15, 16, 33, 34] rfl rfl (by decide) (by decide) hk1 hFc hP1 hD1
    have hP : va_P D vwCl (WL o9 o8 cJ a b cI cZ cD sh sw ts bi it tu ne pr so lo (nI t) (nI n) lp lz lu lk ld lf lb lw u sh mst ts mbi mpr mba (nI t) (nI n) it tu lk mus mud mfs mfb mbo mso mpc mne fo fd) H := hP.sub [0, 1, 2, 3, 4, 5, 6, 7, 8, 9, 10, 11, 12, 13, 14, 15, 16, 19, 20, 21, 22, 23, 24, 25, 26, 27, 28, 29, 30, 31, 32, 33, 34, 17, 18] rfl
    have hD : va_D (fun q => s.heap.size ≤ q) (WL o9 o8 cJ a b cI cZ cD sh sw ts bi it tu ne pr so lo (nI t) (nI n) lp lz lu lk ld lf lb lw u sh mst ts mbi mpr mba (nI t) (nI n) it tu lk mus mud mfs mfb mbo mso mpc mne fo fd) := hD.sub [0, 1, 2, 3, 4, 5, 6, 7, 8, 9, 10, 11, 12, 13, 14, 15, 16, 19, 20, 21, 22, 23, 24, 25, 26, 27, 28, 29, 30, 31, 32, 33, 34, 17, 18] (by decide) rfl
    refine lv_istore (lv' := [(7, .int r2), (6, .int r), (0, .ref b9), (1, .ref (a 0)), (2, .ref (b 0)), (3, .ref o9), (4, .ref o8), (5, .int (nI (4 * i)))]) hx hb dL_law_159 hl (by decide) rfl (fun ls hl => ?_)
    have hur : u = r ∧ ¬ r = 0 := two_b hwr hw.2
    refine lv_aload_n hx hb dL_law_161 rfl (lv_at hl 4 rfl) ?_
    have hPc : va_P D vwCl (MW b cI cZ cD u sh mst ts mbi mpr mba (nI t) (nI n) it tu lk mus mud mfs mfb mbo mso mpc mne) H := hP.sub [17, 18, 19, 20, 21, 22, 23, 24, 25, 26, 27, 28, 29, 30, 31, 32] rfl
    have hDc : va_D (fun q => s.heap.size ≤ q) (MW b cI cZ cD u sh mst ts mbi mpr mba (nI t) (nI n) it tu lk mus mud mfs mfb mbo mso mpc mne) := hD.sub [17, 18, 19, 20, 21, 22, 23, 24, 25, 26, 27, 28, 29, 30, 31, 32] (by decide) rfl
    have hFc := va_free (wc := MW b cI cZ cD u sh mst ts mbi mpr mba (nI t) (nI n) it tu lk mus mud mfs mfb mbo mso mpc mne) hD hS hA [17, 18, 19, 20, 21, 22, 23, 24, 25, 26, 27, 28, 29, 30, 31, 32] rfl
    refine va_calli (va_runV (As := []) (rest := []) ⟨hx, hb, hml, xk_od hown, dr_words hts _⟩ (mX2_thrown l D cI cZ cD b _ u sh mst ts mbi mpr mba (nI t) (nI n) it tu lk mus mud mfs mfb mbo mso mpc mne ) (cwV 0 (dr_words hts _) gL_law_X2_thrown rfl rfl rfl (by decide +kernel) ⟨Nat.le_of_ble_eq_true rfl, Nat.le_of_ble_eq_true rfl⟩) ⟨xk_blind, va_recv (yk_Kd hK) hP (ci := 2) (q0 := 17) rfl rfl, xk_pre hPc ((yk_Kd hK).sub [0, 1, 2] rfl) hDc⟩ rfl rfl hl.1 rfl (lv_room (Nat.le_of_ble_eq_true rfl)) dL_law_162 ⟨(by show _ ≤ 1065; omega), (by show _ ≤ 12181; omega)⟩) hS (fun q _ h => hFc q h) hFc (fun r8 u8 t9 H locs ht hvm hw hB hz1 hk1 hS => ?_)
    obtain ⟨hP1, -, hD1⟩ := hB
    rw [ht] at hP1
    obtain ⟨hP, hD⟩ := va_join (wr := XW a cI cZ cD sh sw ts bi it tu ne pr so lo (nI t) (nI n) lp lz lu lk ld lf lb lw ++ [(o9, .inl (cJ, 1, .inr (.inl fo))), (o8, .inl (cD, 1, .inr (.inr (.inr (.inl fd)))))]) (w1 := MW b cI cZ cD u sh mst ts mbi mpr mba (nI t) (nI n) it tu lk mus mud mfs mfb mbo mso mpc mne) hP hD [17, 18, 19, 20, 21, 22, 23, 24, 25, 26, 27, 28, 29, 30, 31, 32] [0, 1, 2, 3, 4, 5, 6, 7, 8, 9, 10, 11, 12, 13, 14, 15, 16, 33, 34] rfl rfl (by decide) (by decide) hk1 hFc hP1 hD1
    have hP : va_P D vwCl (WL o9 o8 cJ a b cI cZ cD sh sw ts bi it tu ne pr so lo (nI t) (nI n) lp lz lu lk ld lf lb lw u sh mst ts mbi mpr mba (nI t) (nI n) it tu lk mus mud mfs mfb mbo mso mpc mne fo fd) H := hP.sub [0, 1, 2, 3, 4, 5, 6, 7, 8, 9, 10, 11, 12, 13, 14, 15, 16, 19, 20, 21, 22, 23, 24, 25, 26, 27, 28, 29, 30, 31, 32, 33, 34, 17, 18] rfl
    have hD : va_D (fun q => s.heap.size ≤ q) (WL o9 o8 cJ a b cI cZ cD sh sw ts bi it tu ne pr so lo (nI t) (nI n) lp lz lu lk ld lf lb lw u sh mst ts mbi mpr mba (nI t) (nI n) it tu lk mus mud mfs mfb mbo mso mpc mne fo fd) := hD.sub [0, 1, 2, 3, 4, 5, 6, 7, 8, 9, 10, 11, 12, 13, 14, 15, 16, 19, 20, 21, 22, 23, 24, 25, 26, 27, 28, 29, 30, 31, 32, 33, 34, 17, 18] (by decide) rfl
    refine xk_i (y := u) hw ?_
    refine lv_iload hx hb dL_law_165 (lv_at hl 1 rfl) ?_
    refine lv_icmp_eq (tgt := 172) hx hb dL_law_167 (by decide) (fun c => ?_) (fun c => absurd hur.1 c)
    refine lv_iload hx hb dL_law_172 (lv_at hl 1 rfl) ?_
    refine lv_if_ne (tgt := 189) hx hb dL_law_174 (by decide) (fun c => ?_) (fun c => absurd c hur.2)
    refine lv_goto (tgt := 1232) hx hb dL_law_189 (by decide) ?_
    refine lv_iinc (v := nI (4 * (i + 1))) (lv' := [(5, .int (nI (4 * (i + 1)))), (7, .int r2), (6, .int r), (0, .ref b9), (1, .ref (a 0)), (2, .ref (b 0)), (3, .ref o9), (4, .ref o8)]) hx hb dL_law_1232 hl (k := 7) rfl (iinc4 i) (by decide) rfl (fun ls hl => ?_)
    refine lv_goto (tgt := 28) hx hb dL_law_1235 (by decide) ?_
    refine W.widen (k := 35 + (i + 1)) (n := 3953 + 6 * (i + 1)) (by omega) (by omega) ?_
    exact next _ _ _ _ ⟨n, t, sh, sw, ts, bi, it, tu, ne, pr, so, lo, lp, lz, lu, lk, ld, lf, lb, lw, u, mst, mbi, mpr, mba, mus, mud, mfs, mfb, mbo, mso, mpc, mne, fo, fd, ⟨hn, ht5, hsm, hsw, hit, hbi, hpr, hso, hlu, hld, hlf, hlz9, hlb, hlw, hlz, hlp⟩, hP, hD, hS, hdl, lv_sub hl [3, 4, 5, 6, 7, 0] rfl⟩
set_option maxHeartbeats 4000000 in
set_option maxRecDepth 100000 in
theorem ls_2 {p : Program} {l : Launch} {e : Env} {s : State} {m : MethodId} {below : List Frame} {meth : Method} {c : Code} {b9 L : Nat} {xs : Nat → Int32} {D : va_G} {cI cZ cD cJ : ClassId} (C : LC l p s m meth c b9 L xs D cI cZ cD cJ) {a b : Nat → Nat} {o9 o8 i : Nat} (hi4 : 4 * i + 4 ≤ L) {H : Heap} {locs : List Loc} {ls : Array Slot} {d : Drawn} (hI : LInv s D cI cZ cD cJ a b b9 o9 o8 i H locs ls d) (next : ∀ (H' : Heap) (locs' : List Loc) (ls' : Array Slot) (d' : Drawn), LInv s D cI cZ cD cJ a b b9 o9 o8 (i + 1) H' locs' ls' d' → W p l e room_1 (s.setDrawn d') m #[Value.ref b9] below meth c H' locs' (35 + (i + 1)) (3953 + 6 * (i + 1)) (lw_Z below #[Value.ref b9] s) (F0 m 28 ls' [])) : W p l e room_1 (s.setDrawn d) m #[Value.ref b9] below meth c H locs (35 + i) (3953 + 6 * i) (lw_Z below #[Value.ref b9] s) (F0 m 283 ls []) := by
  obtain ⟨hst, hL, C0, hE, hN, hK⟩ := C
  obtain ⟨hx, hb, hr, hml, hown, hts0, hX, hbl, hlocks, hgv⟩ := C0
  have hts : ∀ w ∈ wsL_law, w.before #[Value.ref b9] s = true := fun w h => hts0 w (wsL_law_in w h)
  obtain ⟨n, t, sh, sw, ts, bi, it, tu, ne, pr, so, lo, lp, lz, lu, lk, ld, lf, lb, lw, mth, mst, mbi, mpr, mba, mus, mud, mfs, mfb, mbo, mso, mpc, mne, fo, fd, ⟨hn, ht5, hsm, hsw, hit, hbi, hpr, hso, hlu, hld, hlf, hlz9, hlb, hlw, hlz, hlp⟩, hP, hD, hS, hdl, hl⟩ := hI
  have hA : ∀ q : Nat, s.heap.size ≤ q → (fun q => s.heap.size ≤ q) q := fun q h => h
  have hbA : ¬ (fun q => s.heap.size ≤ q) b9 := Nat.not_le.mpr hbl
  obtain ⟨x1, hx1⟩ : ∃ x, x = xs (nI (4 * i + 1)).toNatClampNeg := ⟨_, rfl⟩
  by_cases hg : inR x1 1 4
  · skip
    obtain ⟨k, hk4, rfl⟩ := nI_of2 (n := 4) (by decide) (fun q => absurd (Int32.le_trans (by decide) hg.1 : (0 : Int32) ≤ x1) (Int32.not_le.mpr q)) hg.2
    have hk : 1 ≤ k ∧ k < 5 := ⟨(nI_leI (by decide) (by omega)).mp hg.1, by omega⟩
    refine lv_aload_n hx hb dL_law_283 rfl (lv_at hl 1 rfl) ?_
    refine lv_aload_n hx hb dL_law_284 rfl (lv_at hl 0 rfl) ?_
    refine lv_iload hx hb dL_law_285 (lv_at hl 5 rfl) ?_
    refine lv_iconst (v := nI 1) hx hb dL_law_287 (by decide) ?_
    refine lv_iadd hx hb dL_law_288 ?_
    refine xk_i (y := nI (4 * i + 1)) (nI_add _ _) ?_
    refine va_sld hx hb (X_drawn hX) hbl hbA hS (i := nI (4 * i + 1)) (vp_in_nI (by omega) (by omega)) dL_law_289 ?_
    refine xk_i (y := nI k) hx1.symm ?_
    refine lv_aload hx hb dL_law_290 (lv_at hl 4 rfl) ?_
    have hPc : va_P D vwCl (XWD o8 a cI cZ cD sh sw ts bi it tu ne pr so lo (nI t) (nI n) lp lz lu lk ld lf lb lw fd) H := hP.sub [0, 1, 2, 3, 4, 5, 6, 7, 8, 9, 10, 11, 12, 13, 14, 15, 16, 34] rfl
    have hDc : va_D (fun q => s.heap.size ≤ q) (XWD o8 a cI cZ cD sh sw ts bi it tu ne pr so lo (nI t) (nI n) lp lz lu lk ld lf lb lw fd) := hD.sub [0, 1, 2, 3, 4, 5, 6, 7, 8, 9, 10, 11, 12, 13, 14, 15, 16, 34] (by decide) rfl
    have hFc := va_free (wc := XWD o8 a cI cZ cD sh sw ts bi it tu ne pr so lo (nI t) (nI n) lp lz lu lk ld lf lb lw fd) hD hS hA [0, 1, 2, 3, 4, 5, 6, 7, 8, 9, 10, 11, 12, 13, 14, 15, 16, 34] rfl
    refine va_calli (vx_runSW (As := [.ref (a 0), .int (nI k), .ref o8]) (rest := []) ⟨hx, hb, hml, xk_od hown, dr_words hts _⟩ (mL_setPriceV l D cI cZ cD cJ a o8 _ sh sw ts bi it tu ne pr so lo (nI t) (nI n) lp lz lu lk ld lf lb lw fd k hk) (vx_cwSW 3 (dr_words hts _) gL_law_L_setPrice rfl rfl rfl (by decide +kernel) ⟨Nat.le_of_ble_eq_true rfl, Nat.le_of_ble_eq_true rfl⟩) ⟨yk_blind, yk_pre hPc (yk_Kd hK) hDc⟩ rfl rfl hl.1 rfl (lv_room (Nat.le_of_ble_eq_true rfl)) dL_law_292 ⟨(by show _ ≤ 1065; omega), (by show _ ≤ 12181; omega)⟩) hS (fun q _ h => hFc q h) hFc (fun r u t9 H locs ht hvm hw hB hz1 hk1 hS => ?_)
    obtain ⟨z, fd1⟩ := u
    obtain ⟨rfl, hv1, hv2⟩ := hw
    dsimp only at hv1 hv2
    obtain ⟨hP1, -, hD1⟩ := hB
    rw [ht] at hP1
    obtain ⟨hP, hD⟩ := va_join (wr := MW b cI cZ cD mth sh mst ts mbi mpr mba (nI t) (nI n) it tu lk mus mud mfs mfb mbo mso mpc mne ++ [(o9, .inl (cJ, 1, .inr (.inl fo)))]) (w1 := XWD o8 a cI cZ cD sh sw ts bi it tu ne (FP.ddiv (FP.i2d (nI k)) 4616189618054758400) so lo (nI t) (nI n) lp lz lu lk ld lf lb lw fd1) hP hD [0, 1, 2, 3, 4, 5, 6, 7, 8, 9, 10, 11, 12, 13, 14, 15, 16, 34] [17, 18, 19, 20, 21, 22, 23, 24, 25, 26, 27, 28, 29, 30, 31, 32, 33] rfl rfl (by decide) (by decide) hk1 hFc hP1 hD1
    have hP : va_P D vwCl (WL o9 o8 cJ a b cI cZ cD sh sw ts bi it tu ne (FP.ddiv (FP.i2d (nI k)) 4616189618054758400) so lo (nI t) (nI n) lp lz lu lk ld lf lb lw mth sh mst ts mbi mpr mba (nI t) (nI n) it tu lk mus mud mfs mfb mbo mso mpc mne fo fd1) H := hP.sub [17, 18, 19, 20, 21, 22, 23, 24, 25, 26, 27, 28, 29, 30, 31, 32, 33, 0, 1, 2, 3, 4, 5, 6, 7, 8, 9, 10, 11, 12, 13, 14, 15, 16, 34] rfl
    have hD : va_D (fun q => s.heap.size ≤ q) (WL o9 o8 cJ a b cI cZ cD sh sw ts bi it tu ne (FP.ddiv (FP.i2d (nI k)) 4616189618054758400) so lo (nI t) (nI n) lp lz lu lk ld lf lb lw mth sh mst ts mbi mpr mba (nI t) (nI n) it tu lk mus mud mfs mfb mbo mso mpc mne fo fd1) := hD.sub [17, 18, 19, 20, 21, 22, 23, 24, 25, 26, 27, 28, 29, 30, 31, 32, 33, 0, 1, 2, 3, 4, 5, 6, 7, 8, 9, 10, 11, 12, 13, 14, 15, 16, 34] (by decide) rfl
    refine lv_istore (lv' := [(6, .int 0), (0, .ref b9), (1, .ref (a 0)), (2, .ref (b 0)), (3, .ref o9), (4, .ref o8), (5, .int (nI (4 * i)))]) hx hb dL_law_295 hl (by decide) rfl (fun ls hl => ?_)
    refine lv_aload_n hx hb dL_law_297 rfl (lv_at hl 3 rfl) ?_
    refine lv_aload_n hx hb dL_law_298 rfl (lv_at hl 1 rfl) ?_
    refine lv_iload hx hb dL_law_299 (lv_at hl 6 rfl) ?_
    refine lv_iconst (v := nI 1) hx hb dL_law_301 (by decide) ?_
    refine lv_iadd hx hb dL_law_302 ?_
    refine xk_i (y := nI (4 * i + 1)) (nI_add _ _) ?_
    refine va_sld hx hb (X_drawn hX) hbl hbA hS (i := nI (4 * i + 1)) (vp_in_nI (by omega) (by omega)) dL_law_303 ?_
    refine xk_i (y := nI k) hx1.symm ?_
    have hPc : va_P D vwCl (MW b cI cZ cD mth sh mst ts mbi mpr mba (nI t) (nI n) it tu lk mus mud mfs mfb mbo mso mpc mne) H := hP.sub [17, 18, 19, 20, 21, 22, 23, 24, 25, 26, 27, 28, 29, 30, 31, 32] rfl
    have hDc : va_D (fun q => s.heap.size ≤ q) (MW b cI cZ cD mth sh mst ts mbi mpr mba (nI t) (nI n) it tu lk mus mud mfs mfb mbo mso mpc mne) := hD.sub [17, 18, 19, 20, 21, 22, 23, 24, 25, 26, 27, 28, 29, 30, 31, 32] (by decide) rfl
    have hFc := va_free (wc := MW b cI cZ cD mth sh mst ts mbi mpr mba (nI t) (nI n) it tu lk mus mud mfs mfb mbo mso mpc mne) hD hS hA [17, 18, 19, 20, 21, 22, 23, 24, 25, 26, 27, 28, 29, 30, 31, 32] rfl
    refine va_calld (va_runV (As := [.int (nI k)]) (rest := []) ⟨hx, hb, hml, xk_od hown, dr_words hts _⟩ (mX2_setPriceV l D cI cZ cD b _ mth sh mst ts mbi mpr mba (nI t) (nI n) it tu lk mus mud mfs mfb mbo mso mpc mne k hk) (cwV 1 (dr_words hts _) gL_law_X2_setPrice rfl rfl rfl (by decide +kernel) ⟨Nat.le_of_ble_eq_true rfl, Nat.le_of_ble_eq_true rfl⟩) ⟨xk_blind, va_recv (yk_Kd hK) hP (ci := 2) (q0 := 17) rfl rfl, xk_pre hPc ((yk_Kd hK).sub [0, 1, 2] rfl) hDc⟩ rfl rfl hl.1 rfl (lv_room (Nat.le_of_ble_eq_true rfl)) dL_law_304 ⟨(by show _ ≤ 1065; omega), (by show _ ≤ 12181; omega)⟩) hS (fun q _ h => hFc q h) hFc (fun r2 u t9 H locs ht hvm hw hB hz1 hk1 hS => ?_)
    obtain ⟨hP1, -, hD1⟩ := hB
    rw [ht] at hP1
    obtain ⟨hP, hD⟩ := va_join (wr := XW a cI cZ cD sh sw ts bi it tu ne (FP.ddiv (FP.i2d (nI k)) 4616189618054758400) so lo (nI t) (nI n) lp lz lu lk ld lf lb lw ++ [(o9, .inl (cJ, 1, .inr (.inl fo))), (o8, .inl (cD, 1, .inr (.inr (.inr (.inl fd1)))))]) (w1 := MW b cI cZ cD 0 sh mst ts mbi (FP.ddiv (FP.i2d (nI k)) 4616189618054758400) mba (nI t) (nI n) it tu lk mus mud mfs mfb mbo mso mpc mne) hP hD [17, 18, 19, 20, 21, 22, 23, 24, 25, 26, 27, 28, 29, 30, 31, 32] [0, 1, 2, 3, 4, 5, 6, 7, 8, 9, 10, 11, 12, 13, 14, 15, 16, 33, 34] rfl rfl (by decide) (by decide) hk1 hFc hP1 hD1
    have hP : va_P D vwCl (WL o9 o8 cJ a b cI cZ cD sh sw ts bi it tu ne (FP.ddiv (FP.i2d (nI k)) 4616189618054758400) so lo (nI t) (nI n) lp lz lu lk ld lf lb lw 0 sh mst ts mbi (FP.ddiv (FP.i2d (nI k)) 4616189618054758400) mba (nI t) (nI n) it tu lk mus mud mfs mfb mbo mso mpc mne fo fd1) H := hP.sub [0, 1, 2, 3, 4, 5, 6, 7, 8, 9, 10, 11, 12, 13, 14, 15, 16, 19, 20, 21, 22, 23, 24, 25, 26, 27, 28, 29, 30, 31, 32, 33, 34, 17, 18] rfl
    have hD : va_D (fun q => s.heap.size ≤ q) (WL o9 o8 cJ a b cI cZ cD sh sw ts bi it tu ne (FP.ddiv (FP.i2d (nI k)) 4616189618054758400) so lo (nI t) (nI n) lp lz lu lk ld lf lb lw 0 sh mst ts mbi (FP.ddiv (FP.i2d (nI k)) 4616189618054758400) mba (nI t) (nI n) it tu lk mus mud mfs mfb mbo mso mpc mne fo fd1) := hD.sub [0, 1, 2, 3, 4, 5, 6, 7, 8, 9, 10, 11, 12, 13, 14, 15, 16, 19, 20, 21, 22, 23, 24, 25, 26, 27, 28, 29, 30, 31, 32, 33, 34, 17, 18] (by decide) rfl
    have hnz : nz (dt (fd1 0)) (dt r2) := by rw [hv1, hw]; exact nz.rf _
    refine lv_dstore (lv' := [(7, .double r2), (6, .int 0), (0, .ref b9), (1, .ref (a 0)), (2, .ref (b 0)), (3, .ref o9), (4, .ref o8), (5, .int (nI (4 * i)))]) hx hb dL_law_307 hl (by decide) rfl (fun ls hl => ?_)
    refine lv_aload_n hx hb dL_law_309 rfl (lv_at hl 4 rfl) ?_
    have hPc : va_P D vwCl (MW b cI cZ cD 0 sh mst ts mbi (FP.ddiv (FP.i2d (nI k)) 4616189618054758400) mba (nI t) (nI n) it tu lk mus mud mfs mfb mbo mso mpc mne) H := hP.sub [17, 18, 19, 20, 21, 22, 23, 24, 25, 26, 27, 28, 29, 30, 31, 32] rfl
    have hDc : va_D (fun q => s.heap.size ≤ q) (MW b cI cZ cD 0 sh mst ts mbi (FP.ddiv (FP.i2d (nI k)) 4616189618054758400) mba (nI t) (nI n) it tu lk mus mud mfs mfb mbo mso mpc mne) := hD.sub [17, 18, 19, 20, 21, 22, 23, 24, 25, 26, 27, 28, 29, 30, 31, 32] (by decide) rfl
    have hFc := va_free (wc := MW b cI cZ cD 0 sh mst ts mbi (FP.ddiv (FP.i2d (nI k)) 4616189618054758400) mba (nI t) (nI n) it tu lk mus mud mfs mfb mbo mso mpc mne) hD hS hA [17, 18, 19, 20, 21, 22, 23, 24, 25, 26, 27, 28, 29, 30, 31, 32] rfl
    refine va_calli (va_runV (As := []) (rest := []) ⟨hx, hb, hml, xk_od hown, dr_words hts _⟩ (mX2_thrown l D cI cZ cD b _ 0 sh mst ts mbi (FP.ddiv (FP.i2d (nI k)) 4616189618054758400) mba (nI t) (nI n) it tu lk mus mud mfs mfb mbo mso mpc mne ) (cwV 0 (dr_words hts _) gL_law_X2_thrown rfl rfl rfl (by decide +kernel) ⟨Nat.le_of_ble_eq_true rfl, Nat.le_of_ble_eq_true rfl⟩) ⟨xk_blind, va_recv (yk_Kd hK) hP (ci := 2) (q0 := 17) rfl rfl, xk_pre hPc ((yk_Kd hK).sub [0, 1, 2] rfl) hDc⟩ rfl rfl hl.1 rfl (lv_room (Nat.le_of_ble_eq_true rfl)) dL_law_310 ⟨(by show _ ≤ 1065; omega), (by show _ ≤ 12181; omega)⟩) hS (fun q _ h => hFc q h) hFc (fun r8 u8 t9 H locs ht hvm hw hB hz1 hk1 hS => ?_)
    obtain ⟨hP1, -, hD1⟩ := hB
    rw [ht] at hP1
    obtain ⟨hP, hD⟩ := va_join (wr := XW a cI cZ cD sh sw ts bi it tu ne (FP.ddiv (FP.i2d (nI k)) 4616189618054758400) so lo (nI t) (nI n) lp lz lu lk ld lf lb lw ++ [(o9, .inl (cJ, 1, .inr (.inl fo))), (o8, .inl (cD, 1, .inr (.inr (.inr (.inl fd1)))))]) (w1 := MW b cI cZ cD 0 sh mst ts mbi (FP.ddiv (FP.i2d (nI k)) 4616189618054758400) mba (nI t) (nI n) it tu lk mus mud mfs mfb mbo mso mpc mne) hP hD [17, 18, 19, 20, 21, 22, 23, 24, 25, 26, 27, 28, 29, 30, 31, 32] [0, 1, 2, 3, 4, 5, 6, 7, 8, 9, 10, 11, 12, 13, 14, 15, 16, 33, 34] rfl rfl (by decide) (by decide) hk1 hFc hP1 hD1
    have hP : va_P D vwCl (WL o9 o8 cJ a b cI cZ cD sh sw ts bi it tu ne (FP.ddiv (FP.i2d (nI k)) 4616189618054758400) so lo (nI t) (nI n) lp lz lu lk ld lf lb lw 0 sh mst ts mbi (FP.ddiv (FP.i2d (nI k)) 4616189618054758400) mba (nI t) (nI n) it tu lk mus mud mfs mfb mbo mso mpc mne fo fd1) H := hP.sub [0, 1, 2, 3, 4, 5, 6, 7, 8, 9, 10, 11, 12, 13, 14, 15, 16, 19, 20, 21, 22, 23, 24, 25, 26, 27, 28, 29, 30, 31, 32, 33, 34, 17, 18] rfl
    have hD : va_D (fun q => s.heap.size ≤ q) (WL o9 o8 cJ a b cI cZ cD sh sw ts bi it tu ne (FP.ddiv (FP.i2d (nI k)) 4616189618054758400) so lo (nI t) (nI n) lp lz lu lk ld lf lb lw 0 sh mst ts mbi (FP.ddiv (FP.i2d (nI k)) 4616189618054758400) mba (nI t) (nI n) it tu lk mus mud mfs mfb mbo mso mpc mne fo fd1) := hD.sub [0, 1, 2, 3, 4, 5, 6, 7, 8, 9, 10, 11, 12, 13, 14, 15, 16, 19, 20, 21, 22, 23, 24, 25, 26, 27, 28, 29, 30, 31, 32, 33, 34, 17, 18] (by decide) rfl
    refine xk_i (y := 0) hw ?_
    refine lv_iload hx hb dL_law_313 (lv_at hl 1 rfl) ?_
    refine lv_icmp_eq (tgt := 320) hx hb dL_law_315 (by decide) (fun c => ?_) (fun c => absurd rfl c)
    refine lv_iload hx hb dL_law_320 (lv_at hl 1 rfl) ?_
    refine lv_if_ne (tgt := 357) hx hb dL_law_322 (by decide) (fun c => absurd rfl c) (fun c => ?_)
    refine lv_aload hx hb dL_law_325 (lv_at hl 6 rfl) ?_
    refine lv_iconst (v := nI 0) hx hb dL_law_327 (by decide) ?_
    refine xk_dald hx hb (yk_Kd hK) hP 34 2 rfl rfl (o := 0) (by decide) (by decide) dL_law_328 ?_
    refine lv_dload hx hb dL_law_329 (lv_at hl 0 rfl) ?_
    refine lv_dcmp hx hb dL_law_331 ?_
    refine lv_if_eq (tgt := 357) hx hb dL_law_332 (by decide) (fun c => ?_) (fun c => ?_)
    · skip
      refine lv_goto (tgt := 1232) hx hb dL_law_357 (by decide) ?_
      refine lv_iinc (v := nI (4 * (i + 1))) (lv' := [(5, .int (nI (4 * (i + 1)))), (7, .double r2), (6, .int 0), (0, .ref b9), (1, .ref (a 0)), (2, .ref (b 0)), (3, .ref o9), (4, .ref o8)]) hx hb dL_law_1232 hl (k := 7) rfl (iinc4 i) (by decide) rfl (fun ls hl => ?_)
      refine lv_goto (tgt := 28) hx hb dL_law_1235 (by decide) ?_
      refine W.widen (k := 35 + (i + 1)) (n := 3953 + 6 * (i + 1)) (by omega) (by omega) ?_
      exact next _ _ _ _ ⟨n, t, sh, sw, ts, bi, it, tu, ne, FP.ddiv (FP.i2d (nI k)) 4616189618054758400, so, lo, lp, lz, lu, lk, ld, lf, lb, lw, 0, mst, mbi, FP.ddiv (FP.i2d (nI k)) 4616189618054758400, mba, mus, mud, mfs, mfb, mbo, mso, mpc, mne, fo, fd1, ⟨hn, ht5, hsm, hsw, hit, hbi, rfl, hso, hlu, hld, hlf, hlz9, hlb, hlw, hlz, hlp⟩, hP, hD, hS, hdl, lv_sub hl [3, 4, 5, 6, 7, 0] rfl⟩
    · skip
      have hnn := (dCmp_nz hnz).resolve_left (fun z => c ((cv_l_eq _).mpr z))
      refine lv_aload hx hb dL_law_335 (lv_at hl 6 rfl) ?_
      refine lv_iconst (v := nI 0) hx hb dL_law_337 (by decide) ?_
      refine xk_dald hx hb (yk_Kd hK) hP 34 2 rfl rfl (o := 0) (by decide) (by decide) dL_law_338 ?_
      refine lv_aload hx hb dL_law_339 (lv_at hl 6 rfl) ?_
      refine lv_iconst (v := nI 0) hx hb dL_law_341 (by decide) ?_
      refine xk_dald hx hb (yk_Kd hK) hP 34 2 rfl rfl (o := 0) (by decide) (by decide) dL_law_342 ?_
      refine lv_dcmp hx hb dL_law_343 ?_
      refine lv_if_eq (tgt := 355) hx hb dL_law_344 (by decide) (fun c => absurd c (nan_ne hnn.1)) (fun c => ?_)
      refine lv_dload hx hb dL_law_347 (lv_at hl 0 rfl) ?_
      refine lv_dload hx hb dL_law_349 (lv_at hl 0 rfl) ?_
      refine lv_dcmp hx hb dL_law_351 ?_
      refine lv_if_ne (tgt := 357) hx hb dL_law_352 (by decide) (fun c => ?_) (fun c => absurd c (nan_ne hnn.2))
      refine lv_goto (tgt := 1232) hx hb dL_law_357 (by decide) ?_
      refine lv_iinc (v := nI (4 * (i + 1))) (lv' := [(5, .int (nI (4 * (i + 1)))), (7, .double r2), (6, .int 0), (0, .ref b9), (1, .ref (a 0)), (2, .ref (b 0)), (3, .ref o9), (4, .ref o8)]) hx hb dL_law_1232 hl (k := 7) rfl (iinc4 i) (by decide) rfl (fun ls hl => ?_)
      refine lv_goto (tgt := 28) hx hb dL_law_1235 (by decide) ?_
      refine W.widen (k := 35 + (i + 1)) (n := 3953 + 6 * (i + 1)) (by omega) (by omega) ?_
      exact next _ _ _ _ ⟨n, t, sh, sw, ts, bi, it, tu, ne, FP.ddiv (FP.i2d (nI k)) 4616189618054758400, so, lo, lp, lz, lu, lk, ld, lf, lb, lw, 0, mst, mbi, FP.ddiv (FP.i2d (nI k)) 4616189618054758400, mba, mus, mud, mfs, mfb, mbo, mso, mpc, mne, fo, fd1, ⟨hn, ht5, hsm, hsw, hit, hbi, rfl, hso, hlu, hld, hlf, hlz9, hlb, hlw, hlz, hlp⟩, hP, hD, hS, hdl, lv_sub hl [3, 4, 5, 6, 7, 0] rfl⟩
  · skip
    refine lv_aload_n hx hb dL_law_283 rfl (lv_at hl 1 rfl) ?_
    refine lv_aload_n hx hb dL_law_284 rfl (lv_at hl 0 rfl) ?_
    refine lv_iload hx hb dL_law_285 (lv_at hl 5 rfl) ?_
    refine lv_iconst (v := nI 1) hx hb dL_law_287 (by decide) ?_
    refine lv_iadd hx hb dL_law_288 ?_
    refine xk_i (y := nI (4 * i + 1)) (nI_add _ _) ?_
    refine va_sld hx hb (X_drawn hX) hbl hbA hS (i := nI (4 * i + 1)) (vp_in_nI (by omega) (by omega)) dL_law_289 ?_
    refine xk_i (y := x1) hx1.symm ?_
    refine lv_aload hx hb dL_law_290 (lv_at hl 4 rfl) ?_
    have hPx : va_P D vwCl (XW a cI cZ cD sh sw ts bi it tu ne pr so lo (nI t) (nI n) lp lz lu lk ld lf lb lw) H := hP.sub [0, 1, 2, 3, 4, 5, 6, 7, 8, 9, 10, 11, 12, 13, 14, 15, 16] rfl
    have hDx : va_D (fun q => s.heap.size ≤ q) (XW a cI cZ cD sh sw ts bi it tu ne pr so lo (nI t) (nI n) lp lz lu lk ld lf lb lw) := hD.sub [0, 1, 2, 3, 4, 5, 6, 7, 8, 9, 10, 11, 12, 13, 14, 15, 16] (by decide) rfl
    refine va_calli (vx_runSW (As := [.ref (a 0), .int x1, .ref o8]) (rest := []) ⟨hx, hb, hml, xk_od hown, dr_words hts _⟩ (mL_setPriceX l hst D cI cZ cD a H sh sw ts bi it tu ne pr so lo (nI t) (nI n) lp lz lu lk ld lf lb lw o8 x1 hg) (vx_cwSW 3 (dr_words hts _) gL_law_L_setPrice rfl rfl rfl (by decide +kernel) ⟨Nat.le_of_ble_eq_true rfl, Nat.le_of_ble_eq_true rfl⟩) ⟨zq_blind, zq_pre hPx ((yk_Kd hK).sub [0, 1, 2] rfl) hDx hE.drawn hN.drawn hS hA⟩ rfl rfl hl.1 rfl (lv_room (Nat.le_of_ble_eq_true rfl)) dL_law_292 ⟨(by show _ ≤ 1065; omega), (by show _ ≤ 12181; omega)⟩) hS (fun q h1 h2 => absurd h2 (Nat.not_le.mpr h1)) (fun q h => Nat.le_trans hS.1 h) (fun r u t9 H9 locs ht hvm hwr hB hz1 hk1 hS => ?_)
    have hP : va_P D vwCl (WL o9 o8 cJ a b cI cZ cD sh sw ts bi it tu ne pr so lo (nI t) (nI n) lp lz lu lk ld lf lb lw mth sh mst ts mbi mpr mba (nI t) (nI n) it tu lk mus mud mfs mfb mbo mso mpc mne fo fd) H9 := hP.kept (fun k q hq => hk1 q.1 (hP k q hq).lt (Nat.not_le.mpr (hP k q hq).lt))
    generalize H9 = H at hP hS ⊢
    refine lv_istore (lv' := [(6, .int r), (0, .ref b9), (1, .ref (a 0)), (2, .ref (b 0)), (3, .ref o9), (4, .ref o8), (5, .int (nI (4 * i)))]) hx hb dL_law_295 hl (by decide) rfl (fun ls hl => ?_)
    refine lv_aload_n hx hb dL_law_297 rfl (lv_at hl 3 rfl) ?_
    refine lv_aload_n hx hb dL_law_298 rfl (lv_at hl 1 rfl) ?_
    refine lv_iload hx hb dL_law_299 (lv_at hl 6 rfl) ?_
    refine lv_iconst (v := nI 1) hx hb dL_law_301 (by decide) ?_
    refine lv_iadd hx hb dL_law_302 ?_
    refine xk_i (y := nI (4 * i + 1)) (nI_add _ _) ?_
    refine va_sld hx hb (X_drawn hX) hbl hbA hS (i := nI (4 * i + 1)) (vp_in_nI (by omega) (by omega)) dL_law_303 ?_
    refine xk_i (y := x1) hx1.symm ?_
    have hPc : va_P D vwCl (MW b cI cZ cD mth sh mst ts mbi mpr mba (nI t) (nI n) it tu lk mus mud mfs mfb mbo mso mpc mne) H := hP.sub [17, 18, 19, 20, 21, 22, 23, 24, 25, 26, 27, 28, 29, 30, 31, 32] rfl
    have hDc : va_D (fun q => s.heap.size ≤ q) (MW b cI cZ cD mth sh mst ts mbi mpr mba (nI t) (nI n) it tu lk mus mud mfs mfb mbo mso mpc mne) := hD.sub [17, 18, 19, 20, 21, 22, 23, 24, 25, 26, 27, 28, 29, 30, 31, 32] (by decide) rfl
    have hFc := va_free (wc := MW b cI cZ cD mth sh mst ts mbi mpr mba (nI t) (nI n) it tu lk mus mud mfs mfb mbo mso mpc mne) hD hS hA [17, 18, 19, 20, 21, 22, 23, 24, 25, 26, 27, 28, 29, 30, 31, 32] rfl
    refine va_calld (va_runV (As := [.int x1]) (rest := []) ⟨hx, hb, hml, xk_od hown, dr_words hts _⟩ (mX2_setPriceX l D cI cZ cD b _ mth sh mst ts mbi mpr mba (nI t) (nI n) it tu lk mus mud mfs mfb mbo mso mpc mne x1 hg) (cwV 1 (dr_words hts _) gL_law_X2_setPrice rfl rfl rfl (by decide +kernel) ⟨Nat.le_of_ble_eq_true rfl, Nat.le_of_ble_eq_true rfl⟩) ⟨xk_blind, va_recv (yk_Kd hK) hP (ci := 2) (q0 := 17) rfl rfl, xk_pre hPc ((yk_Kd hK).sub [0, 1, 2] rfl) hDc⟩ rfl rfl hl.1 rfl (lv_room (Nat.le_of_ble_eq_true rfl)) dL_law_304 ⟨(by show _ ≤ 1065; omega), (by show _ ≤ 12181; omega)⟩) hS (fun q _ h => hFc q h) hFc (fun r2 u t9 H locs ht hvm hw hB hz1 hk1 hS => ?_)
    obtain ⟨hP1, -, hD1⟩ := hB
    rw [ht] at hP1
    obtain ⟨hP, hD⟩ := va_join (wr := XW a cI cZ cD sh sw ts bi it tu ne pr so lo (nI t) (nI n) lp lz lu lk ld lf lb lw ++ [(o9, .inl (cJ, 1, .inr (.inl fo))), (o8, .inl (cD, 1, .inr (.inr (.inr (.inl fd)))))]) (w1 := MW b cI cZ cD 1 sh mst ts mbi mpr mba (nI t) (nI n) it tu lk mus mud mfs mfb mbo mso mpc mne) hP hD [17, 18, 19, 20, 21, 22, 23, 24, 25, 26, 27, 28, 29, 30, 31, 32] [0, 1, 2, 3, 4, 5, 6, 7, 8, 9, 10, 11, 12, 13, 14, 15, 16, 33, 34] rfl rfl (by decide) (by decide) hk1 hFc hP1 hD1
    have hP : va_P D vwCl (WL o9 o8 cJ a b cI cZ cD sh sw ts bi it tu ne pr so lo (nI t) (nI n) lp lz lu lk ld lf lb lw 1 sh mst ts mbi mpr mba (nI t) (nI n) it tu lk mus mud mfs mfb mbo mso mpc mne fo fd) H := hP.sub [0, 1, 2, 3, 4, 5, 6, 7, 8, 9, 10, 11, 12, 13, 14, 15, 16, 19, 20, 21, 22, 23, 24, 25, 26, 27, 28, 29, 30, 31, 32, 33, 34, 17, 18] rfl
    have hD : va_D (fun q => s.heap.size ≤ q) (WL o9 o8 cJ a b cI cZ cD sh sw ts bi it tu ne pr so lo (nI t) (nI n) lp lz lu lk ld lf lb lw 1 sh mst ts mbi mpr mba (nI t) (nI n) it tu lk mus mud mfs mfb mbo mso mpc mne fo fd) := hD.sub [0, 1, 2, 3, 4, 5, 6, 7, 8, 9, 10, 11, 12, 13, 14, 15, 16, 19, 20, 21, 22, 23, 24, 25, 26, 27, 28, 29, 30, 31, 32, 33, 34, 17, 18] (by decide) rfl
    refine lv_dstore (lv' := [(7, .double r2), (6, .int r), (0, .ref b9), (1, .ref (a 0)), (2, .ref (b 0)), (3, .ref o9), (4, .ref o8), (5, .int (nI (4 * i)))]) hx hb dL_law_307 hl (by decide) rfl (fun ls hl => ?_)
    have hur : 1 = r ∧ ¬ r = 0 := ⟨by rw [hwr], by rw [hwr]; decide⟩
    refine lv_aload_n hx hb dL_law_309 rfl (lv_at hl 4 rfl) ?_
    have hPc : va_P D vwCl (MW b cI cZ cD 1 sh mst ts mbi mpr mba (nI t) (nI n) it tu lk mus mud mfs mfb mbo mso mpc mne) H := hP.sub [17, 18, 19, 20, 21, 22, 23, 24, 25, 26, 27, 28, 29, 30, 31, 32] rfl
    have hDc : va_D (fun q => s.heap.size ≤ q) (MW b cI cZ cD 1 sh mst ts mbi mpr mba (nI t) (nI n) it tu lk mus mud mfs mfb mbo mso mpc mne) := hD.sub [17, 18, 19, 20, 21, 22, 23, 24, 25, 26, 27, 28, 29, 30, 31, 32] (by decide) rfl
    have hFc := va_free (wc := MW b cI cZ cD 1 sh mst ts mbi mpr mba (nI t) (nI n) it tu lk mus mud mfs mfb mbo mso mpc mne) hD hS hA [17, 18, 19, 20, 21, 22, 23, 24, 25, 26, 27, 28, 29, 30, 31, 32] rfl
    refine va_calli (va_runV (As := []) (rest := []) ⟨hx, hb, hml, xk_od hown, dr_words hts _⟩ (mX2_thrown l D cI cZ cD b _ 1 sh mst ts mbi mpr mba (nI t) (nI n) it tu lk mus mud mfs mfb mbo mso mpc mne ) (cwV 0 (dr_words hts _) gL_law_X2_thrown rfl rfl rfl (by decide +kernel) ⟨Nat.le_of_ble_eq_true rfl, Nat.le_of_ble_eq_true rfl⟩) ⟨xk_blind, va_recv (yk_Kd hK) hP (ci := 2) (q0 := 17) rfl rfl, xk_pre hPc ((yk_Kd hK).sub [0, 1, 2] rfl) hDc⟩ rfl rfl hl.1 rfl (lv_room (Nat.le_of_ble_eq_true rfl)) dL_law_310 ⟨(by show _ ≤ 1065; omega), (by show _ ≤ 12181; omega)⟩) hS (fun q _ h => hFc q h) hFc (fun r8 u8 t9 H locs ht hvm hw hB hz1 hk1 hS => ?_)
    obtain ⟨hP1, -, hD1⟩ := hB
    rw [ht] at hP1
    obtain ⟨hP, hD⟩ := va_join (wr := XW a cI cZ cD sh sw ts bi it tu ne pr so lo (nI t) (nI n) lp lz lu lk ld lf lb lw ++ [(o9, .inl (cJ, 1, .inr (.inl fo))), (o8, .inl (cD, 1, .inr (.inr (.inr (.inl fd)))))]) (w1 := MW b cI cZ cD 1 sh mst ts mbi mpr mba (nI t) (nI n) it tu lk mus mud mfs mfb mbo mso mpc mne) hP hD [17, 18, 19, 20, 21, 22, 23, 24, 25, 26, 27, 28, 29, 30, 31, 32] [0, 1, 2, 3, 4, 5, 6, 7, 8, 9, 10, 11, 12, 13, 14, 15, 16, 33, 34] rfl rfl (by decide) (by decide) hk1 hFc hP1 hD1
    have hP : va_P D vwCl (WL o9 o8 cJ a b cI cZ cD sh sw ts bi it tu ne pr so lo (nI t) (nI n) lp lz lu lk ld lf lb lw 1 sh mst ts mbi mpr mba (nI t) (nI n) it tu lk mus mud mfs mfb mbo mso mpc mne fo fd) H := hP.sub [0, 1, 2, 3, 4, 5, 6, 7, 8, 9, 10, 11, 12, 13, 14, 15, 16, 19, 20, 21, 22, 23, 24, 25, 26, 27, 28, 29, 30, 31, 32, 33, 34, 17, 18] rfl
    have hD : va_D (fun q => s.heap.size ≤ q) (WL o9 o8 cJ a b cI cZ cD sh sw ts bi it tu ne pr so lo (nI t) (nI n) lp lz lu lk ld lf lb lw 1 sh mst ts mbi mpr mba (nI t) (nI n) it tu lk mus mud mfs mfb mbo mso mpc mne fo fd) := hD.sub [0, 1, 2, 3, 4, 5, 6, 7, 8, 9, 10, 11, 12, 13, 14, 15, 16, 19, 20, 21, 22, 23, 24, 25, 26, 27, 28, 29, 30, 31, 32, 33, 34, 17, 18] (by decide) rfl
    refine xk_i (y := 1) hw ?_
    refine lv_iload hx hb dL_law_313 (lv_at hl 1 rfl) ?_
    refine lv_icmp_eq (tgt := 320) hx hb dL_law_315 (by decide) (fun c => ?_) (fun c => absurd hur.1 c)
    refine lv_iload hx hb dL_law_320 (lv_at hl 1 rfl) ?_
    refine lv_if_ne (tgt := 357) hx hb dL_law_322 (by decide) (fun c => ?_) (fun c => absurd c hur.2)
    refine lv_goto (tgt := 1232) hx hb dL_law_357 (by decide) ?_
    refine lv_iinc (v := nI (4 * (i + 1))) (lv' := [(5, .int (nI (4 * (i + 1)))), (7, .double r2), (6, .int r), (0, .ref b9), (1, .ref (a 0)), (2, .ref (b 0)), (3, .ref o9), (4, .ref o8)]) hx hb dL_law_1232 hl (k := 7) rfl (iinc4 i) (by decide) rfl (fun ls hl => ?_)
    refine lv_goto (tgt := 28) hx hb dL_law_1235 (by decide) ?_
    refine W.widen (k := 35 + (i + 1)) (n := 3953 + 6 * (i + 1)) (by omega) (by omega) ?_
    exact next _ _ _ _ ⟨n, t, sh, sw, ts, bi, it, tu, ne, pr, so, lo, lp, lz, lu, lk, ld, lf, lb, lw, 1, mst, mbi, mpr, mba, mus, mud, mfs, mfb, mbo, mso, mpc, mne, fo, fd, ⟨hn, ht5, hsm, hsw, hit, hbi, hpr, hso, hlu, hld, hlf, hlz9, hlb, hlw, hlz, hlp⟩, hP, hD, hS, hdl, lv_sub hl [3, 4, 5, 6, 7, 0] rfl⟩
set_option maxHeartbeats 4000000 in
set_option maxRecDepth 100000 in
theorem ls_3 {p : Program} {l : Launch} {e : Env} {s : State} {m : MethodId} {below : List Frame} {meth : Method} {c : Code} {b9 L : Nat} {xs : Nat → Int32} {D : va_G} {cI cZ cD cJ : ClassId} (C : LC l p s m meth c b9 L xs D cI cZ cD cJ) {a b : Nat → Nat} {o9 o8 i : Nat} (hi4 : 4 * i + 4 ≤ L) {H : Heap} {locs : List Loc} {ls : Array Slot} {d : Drawn} (hI : LInv s D cI cZ cD cJ a b b9 o9 o8 i H locs ls d) (next : ∀ (H' : Heap) (locs' : List Loc) (ls' : Array Slot) (d' : Drawn), LInv s D cI cZ cD cJ a b b9 o9 o8 (i + 1) H' locs' ls' d' → W p l e room_1 (s.setDrawn d') m #[Value.ref b9] below meth c H' locs' (35 + (i + 1)) (3953 + 6 * (i + 1)) (lw_Z below #[Value.ref b9] s) (F0 m 28 ls' [])) : W p l e room_1 (s.setDrawn d) m #[Value.ref b9] below meth c H locs (35 + i) (3953 + 6 * i) (lw_Z below #[Value.ref b9] s) (F0 m 360 ls []) := by
  obtain ⟨hst, hL, C0, hE, hN, hK⟩ := C
  obtain ⟨hx, hb, hr, hml, hown, hts0, hX, hbl, hlocks, hgv⟩ := C0
  have hts : ∀ w ∈ wsL_law, w.before #[Value.ref b9] s = true := fun w h => hts0 w (wsL_law_in w h)
  obtain ⟨n, t, sh, sw, ts, bi, it, tu, ne, pr, so, lo, lp, lz, lu, lk, ld, lf, lb, lw, mth, mst, mbi, mpr, mba, mus, mud, mfs, mfb, mbo, mso, mpc, mne, fo, fd, ⟨hn, ht5, hsm, hsw, hit, hbi, hpr, hso, hlu, hld, hlf, hlz9, hlb, hlw, hlz, hlp⟩, hP, hD, hS, hdl, hl⟩ := hI
  have hA : ∀ q : Nat, s.heap.size ≤ q → (fun q => s.heap.size ≤ q) q := fun q h => h
  have hbA : ¬ (fun q => s.heap.size ≤ q) b9 := Nat.not_le.mpr hbl
  obtain ⟨x1, hx1⟩ : ∃ x, x = xs (nI (4 * i + 1)).toNatClampNeg := ⟨_, rfl⟩
  obtain ⟨x2, hx2⟩ : ∃ x, x = xs (nI (4 * i + 2)).toNatClampNeg := ⟨_, rfl⟩
  by_cases hg : inR x1 0 4 ∧ inR x2 0 50
  · skip
    obtain ⟨g1, g2⟩ := hg
    obtain ⟨o, ho4, rfl⟩ := inR_nI (n := 4) (by decide) g1
    have ho : o < 5 := by omega
    refine lv_aload_n hx hb dL_law_360 rfl (lv_at hl 1 rfl) ?_
    refine lv_aload_n hx hb dL_law_361 rfl (lv_at hl 0 rfl) ?_
    refine lv_iload hx hb dL_law_362 (lv_at hl 5 rfl) ?_
    refine lv_iconst (v := nI 1) hx hb dL_law_364 (by decide) ?_
    refine lv_iadd hx hb dL_law_365 ?_
    refine xk_i (y := nI (4 * i + 1)) (nI_add _ _) ?_
    refine va_sld hx hb (X_drawn hX) hbl hbA hS (i := nI (4 * i + 1)) (vp_in_nI (by omega) (by omega)) dL_law_366 ?_
    refine xk_i (y := nI o) hx1.symm ?_
    refine lv_aload_n hx hb dL_law_367 rfl (lv_at hl 0 rfl) ?_
    refine lv_iload hx hb dL_law_368 (lv_at hl 5 rfl) ?_
    refine lv_iconst (v := nI 2) hx hb dL_law_370 (by decide) ?_
    refine lv_iadd hx hb dL_law_371 ?_
    refine xk_i (y := nI (4 * i + 2)) (nI_add _ _) ?_
    refine va_sld hx hb (X_drawn hX) hbl hbA hS (i := nI (4 * i + 2)) (vp_in_nI (by omega) (by omega)) dL_law_372 ?_
    refine xk_i (y := x2) hx2.symm ?_
    refine lv_aload_n hx hb dL_law_373 rfl (lv_at hl 3 rfl) ?_
    have hPc : va_P D vwCl (XWJ o9 cJ a cI cZ cD sh sw ts bi it tu ne pr so lo (nI t) (nI n) lp lz lu lk ld lf lb lw fo) H := hP.sub [0, 1, 2, 3, 4, 5, 6, 7, 8, 9, 10, 11, 12, 13, 14, 15, 16, 33] rfl
    have hDc : va_D (fun q => s.heap.size ≤ q) (XWJ o9 cJ a cI cZ cD sh sw ts bi it tu ne pr so lo (nI t) (nI n) lp lz lu lk ld lf lb lw fo) := hD.sub [0, 1, 2, 3, 4, 5, 6, 7, 8, 9, 10, 11, 12, 13, 14, 15, 16, 33] (by decide) rfl
    have hFc := va_free (wc := XWJ o9 cJ a cI cZ cD sh sw ts bi it tu ne pr so lo (nI t) (nI n) lp lz lu lk ld lf lb lw fo) hD hS hA [0, 1, 2, 3, 4, 5, 6, 7, 8, 9, 10, 11, 12, 13, 14, 15, 16, 33] rfl
    refine va_calli (vx_runSW (As := [.ref (a 0), .int (nI o), .int x2, .ref o9]) (rest := []) ⟨hx, hb, hml, xk_od hown, dr_words hts _⟩ (mL_tellV l D cI cZ cD cJ a o9 _ sh sw ts bi it tu ne pr so lo (nI t) (nI n) lp lz lu lk ld lf lb lw fo o x2 ho g2 hit) (vx_cwSW 4 (dr_words hts _) gL_law_L_tell rfl rfl rfl (by decide +kernel) ⟨Nat.le_of_ble_eq_true rfl, Nat.le_of_ble_eq_true rfl⟩) ⟨yk_blind, yk_pre hPc (yk_Kd hK) hDc⟩ rfl rfl hl.1 rfl (lv_room (Nat.le_of_ble_eq_true rfl)) dL_law_374 ⟨(by show _ ≤ 1065; omega), (by show _ ≤ 12181; omega)⟩) hS (fun q _ h => hFc q h) hFc (fun r u t9 H locs ht hvm hw hB hz1 hk1 hS => ?_)
    obtain ⟨z, fo1⟩ := u
    obtain ⟨rfl, hv1, hv2⟩ := hw
    dsimp only at hv1 hv2
    obtain ⟨hP1, -, hD1⟩ := hB
    rw [ht] at hP1
    obtain ⟨hP, hD⟩ := va_join (wr := MW b cI cZ cD mth sh mst ts mbi mpr mba (nI t) (nI n) it tu lk mus mud mfs mfb mbo mso mpc mne ++ [(o8, .inl (cD, 1, .inr (.inr (.inr (.inl fd)))))]) (w1 := XWJ o9 cJ a cI cZ cD sh sw ts bi (upd it o 1) (upd tu o x2) ne pr so lo (nI t) (nI n) lp lz lu lk ld lf lb lw fo1) hP hD [0, 1, 2, 3, 4, 5, 6, 7, 8, 9, 10, 11, 12, 13, 14, 15, 16, 33] [17, 18, 19, 20, 21, 22, 23, 24, 25, 26, 27, 28, 29, 30, 31, 32, 34] rfl rfl (by decide) (by decide) hk1 hFc hP1 hD1
    have hP : va_P D vwCl (WL o9 o8 cJ a b cI cZ cD sh sw ts bi (upd it o 1) (upd tu o x2) ne pr so lo (nI t) (nI n) lp lz lu lk ld lf lb lw mth sh mst ts mbi mpr mba (nI t) (nI n) it tu lk mus mud mfs mfb mbo mso mpc mne fo1 fd) H := hP.sub [17, 18, 19, 20, 21, 22, 23, 24, 25, 26, 27, 28, 29, 30, 31, 32, 33, 0, 1, 2, 3, 4, 5, 6, 7, 8, 9, 10, 11, 12, 13, 14, 15, 34, 16] rfl
    have hD : va_D (fun q => s.heap.size ≤ q) (WL o9 o8 cJ a b cI cZ cD sh sw ts bi (upd it o 1) (upd tu o x2) ne pr so lo (nI t) (nI n) lp lz lu lk ld lf lb lw mth sh mst ts mbi mpr mba (nI t) (nI n) it tu lk mus mud mfs mfb mbo mso mpc mne fo1 fd) := hD.sub [17, 18, 19, 20, 21, 22, 23, 24, 25, 26, 27, 28, 29, 30, 31, 32, 33, 0, 1, 2, 3, 4, 5, 6, 7, 8, 9, 10, 11, 12, 13, 14, 15, 34, 16] (by decide) rfl
    refine lv_istore (lv' := [(6, .int 0), (0, .ref b9), (1, .ref (a 0)), (2, .ref (b 0)), (3, .ref o9), (4, .ref o8), (5, .int (nI (4 * i)))]) hx hb dL_law_377 hl (by decide) rfl (fun ls hl => ?_)
    refine lv_aload_n hx hb dL_law_379 rfl (lv_at hl 3 rfl) ?_
    refine lv_aload_n hx hb dL_law_380 rfl (lv_at hl 1 rfl) ?_
    refine lv_iload hx hb dL_law_381 (lv_at hl 6 rfl) ?_
    refine lv_iconst (v := nI 1) hx hb dL_law_383 (by decide) ?_
    refine lv_iadd hx hb dL_law_384 ?_
    refine xk_i (y := nI (4 * i + 1)) (nI_add _ _) ?_
    refine va_sld hx hb (X_drawn hX) hbl hbA hS (i := nI (4 * i + 1)) (vp_in_nI (by omega) (by omega)) dL_law_385 ?_
    refine xk_i (y := nI o) hx1.symm ?_
    refine lv_aload_n hx hb dL_law_386 rfl (lv_at hl 1 rfl) ?_
    refine lv_iload hx hb dL_law_387 (lv_at hl 6 rfl) ?_
    refine lv_iconst (v := nI 2) hx hb dL_law_389 (by decide) ?_
    refine lv_iadd hx hb dL_law_390 ?_
    refine xk_i (y := nI (4 * i + 2)) (nI_add _ _) ?_
    refine va_sld hx hb (X_drawn hX) hbl hbA hS (i := nI (4 * i + 2)) (vp_in_nI (by omega) (by omega)) dL_law_391 ?_
    refine xk_i (y := x2) hx2.symm ?_
    have hPc : va_P D vwCl (MW b cI cZ cD mth sh mst ts mbi mpr mba (nI t) (nI n) it tu lk mus mud mfs mfb mbo mso mpc mne) H := hP.sub [17, 18, 19, 20, 21, 22, 23, 24, 25, 26, 27, 28, 29, 30, 31, 32] rfl
    have hDc : va_D (fun q => s.heap.size ≤ q) (MW b cI cZ cD mth sh mst ts mbi mpr mba (nI t) (nI n) it tu lk mus mud mfs mfb mbo mso mpc mne) := hD.sub [17, 18, 19, 20, 21, 22, 23, 24, 25, 26, 27, 28, 29, 30, 31, 32] (by decide) rfl
    have hFc := va_free (wc := MW b cI cZ cD mth sh mst ts mbi mpr mba (nI t) (nI n) it tu lk mus mud mfs mfb mbo mso mpc mne) hD hS hA [17, 18, 19, 20, 21, 22, 23, 24, 25, 26, 27, 28, 29, 30, 31, 32] rfl
    refine va_calli (va_runV (As := [.int (nI o), .int x2]) (rest := []) ⟨hx, hb, hml, xk_od hown, dr_words hts _⟩ (mX2_tellV l D cI cZ cD b _ mth sh mst ts mbi mpr mba (nI t) (nI n) it tu lk mus mud mfs mfb mbo mso mpc mne o x2 ho g2 hit) (cwV 2 (dr_words hts _) gL_law_X2_tell rfl rfl rfl (by decide +kernel) ⟨Nat.le_of_ble_eq_true rfl, Nat.le_of_ble_eq_true rfl⟩) ⟨xk_blind, va_recv (yk_Kd hK) hP (ci := 2) (q0 := 17) rfl rfl, xk_pre hPc ((yk_Kd hK).sub [0, 1, 2] rfl) hDc⟩ rfl rfl hl.1 rfl (lv_room (Nat.le_of_ble_eq_true rfl)) dL_law_392 ⟨(by show _ ≤ 1065; omega), (by show _ ≤ 12181; omega)⟩) hS (fun q _ h => hFc q h) hFc (fun r2 u t9 H locs ht hvm hw hB hz1 hk1 hS => ?_)
    obtain ⟨hP1, -, hD1⟩ := hB
    rw [ht] at hP1
    obtain ⟨hP, hD⟩ := va_join (wr := XW a cI cZ cD sh sw ts bi (upd it o 1) (upd tu o x2) ne pr so lo (nI t) (nI n) lp lz lu lk ld lf lb lw ++ [(o9, .inl (cJ, 1, .inr (.inl fo1))), (o8, .inl (cD, 1, .inr (.inr (.inr (.inl fd)))))]) (w1 := MW b cI cZ cD 0 sh mst ts mbi mpr mba (nI t) (nI n) (upd it o 1) (upd tu o x2) lk mus mud mfs mfb mbo mso mpc mne) hP hD [17, 18, 19, 20, 21, 22, 23, 24, 25, 26, 27, 28, 29, 30, 31, 32] [0, 1, 2, 3, 4, 5, 6, 7, 8, 9, 10, 11, 12, 13, 14, 15, 16, 33, 34] rfl rfl (by decide) (by decide) hk1 hFc hP1 hD1
    have hP : va_P D vwCl (WL o9 o8 cJ a b cI cZ cD sh sw ts bi (upd it o 1) (upd tu o x2) ne pr so lo (nI t) (nI n) lp lz lu lk ld lf lb lw 0 sh mst ts mbi mpr mba (nI t) (nI n) (upd it o 1) (upd tu o x2) lk mus mud mfs mfb mbo mso mpc mne fo1 fd) H := hP.sub [0, 1, 2, 3, 4, 5, 6, 7, 8, 9, 10, 11, 12, 13, 14, 15, 16, 19, 20, 21, 22, 23, 24, 25, 26, 27, 28, 29, 30, 31, 32, 33, 34, 17, 18] rfl
    have hD : va_D (fun q => s.heap.size ≤ q) (WL o9 o8 cJ a b cI cZ cD sh sw ts bi (upd it o 1) (upd tu o x2) ne pr so lo (nI t) (nI n) lp lz lu lk ld lf lb lw 0 sh mst ts mbi mpr mba (nI t) (nI n) (upd it o 1) (upd tu o x2) lk mus mud mfs mfb mbo mso mpc mne fo1 fd) := hD.sub [0, 1, 2, 3, 4, 5, 6, 7, 8, 9, 10, 11, 12, 13, 14, 15, 16, 19, 20, 21, 22, 23, 24, 25, 26, 27, 28, 29, 30, 31, 32, 33, 34, 17, 18] (by decide) rfl
    subst hw
    refine lv_istore (lv' := [(7, .int (it o)), (6, .int 0), (0, .ref b9), (1, .ref (a 0)), (2, .ref (b 0)), (3, .ref o9), (4, .ref o8), (5, .int (nI (4 * i)))]) hx hb dL_law_395 hl (by decide) rfl (fun ls hl => ?_)
    refine lv_aload_n hx hb dL_law_397 rfl (lv_at hl 4 rfl) ?_
    have hPc : va_P D vwCl (MW b cI cZ cD 0 sh mst ts mbi mpr mba (nI t) (nI n) (upd it o 1) (upd tu o x2) lk mus mud mfs mfb mbo mso mpc mne) H := hP.sub [17, 18, 19, 20, 21, 22, 23, 24, 25, 26, 27, 28, 29, 30, 31, 32] rfl
    have hDc : va_D (fun q => s.heap.size ≤ q) (MW b cI cZ cD 0 sh mst ts mbi mpr mba (nI t) (nI n) (upd it o 1) (upd tu o x2) lk mus mud mfs mfb mbo mso mpc mne) := hD.sub [17, 18, 19, 20, 21, 22, 23, 24, 25, 26, 27, 28, 29, 30, 31, 32] (by decide) rfl
    have hFc := va_free (wc := MW b cI cZ cD 0 sh mst ts mbi mpr mba (nI t) (nI n) (upd it o 1) (upd tu o x2) lk mus mud mfs mfb mbo mso mpc mne) hD hS hA [17, 18, 19, 20, 21, 22, 23, 24, 25, 26, 27, 28, 29, 30, 31, 32] rfl
    refine va_calli (va_runV (As := []) (rest := []) ⟨hx, hb, hml, xk_od hown, dr_words hts _⟩ (mX2_thrown l D cI cZ cD b _ 0 sh mst ts mbi mpr mba (nI t) (nI n) (upd it o 1) (upd tu o x2) lk mus mud mfs mfb mbo mso mpc mne ) (cwV 0 (dr_words hts _) gL_law_X2_thrown rfl rfl rfl (by decide +kernel) ⟨Nat.le_of_ble_eq_true rfl, Nat.le_of_ble_eq_true rfl⟩) ⟨xk_blind, va_recv (yk_Kd hK) hP (ci := 2) (q0 := 17) rfl rfl, xk_pre hPc ((yk_Kd hK).sub [0, 1, 2] rfl) hDc⟩ rfl rfl hl.1 rfl (lv_room (Nat.le_of_ble_eq_true rfl)) dL_law_398 ⟨(by show _ ≤ 1065; omega), (by show _ ≤ 12181; omega)⟩) hS (fun q _ h => hFc q h) hFc (fun r8 u8 t9 H locs ht hvm hw hB hz1 hk1 hS => ?_)
    obtain ⟨hP1, -, hD1⟩ := hB
    rw [ht] at hP1
    obtain ⟨hP, hD⟩ := va_join (wr := XW a cI cZ cD sh sw ts bi (upd it o 1) (upd tu o x2) ne pr so lo (nI t) (nI n) lp lz lu lk ld lf lb lw ++ [(o9, .inl (cJ, 1, .inr (.inl fo1))), (o8, .inl (cD, 1, .inr (.inr (.inr (.inl fd)))))]) (w1 := MW b cI cZ cD 0 sh mst ts mbi mpr mba (nI t) (nI n) (upd it o 1) (upd tu o x2) lk mus mud mfs mfb mbo mso mpc mne) hP hD [17, 18, 19, 20, 21, 22, 23, 24, 25, 26, 27, 28, 29, 30, 31, 32] [0, 1, 2, 3, 4, 5, 6, 7, 8, 9, 10, 11, 12, 13, 14, 15, 16, 33, 34] rfl rfl (by decide) (by decide) hk1 hFc hP1 hD1
    have hP : va_P D vwCl (WL o9 o8 cJ a b cI cZ cD sh sw ts bi (upd it o 1) (upd tu o x2) ne pr so lo (nI t) (nI n) lp lz lu lk ld lf lb lw 0 sh mst ts mbi mpr mba (nI t) (nI n) (upd it o 1) (upd tu o x2) lk mus mud mfs mfb mbo mso mpc mne fo1 fd) H := hP.sub [0, 1, 2, 3, 4, 5, 6, 7, 8, 9, 10, 11, 12, 13, 14, 15, 16, 19, 20, 21, 22, 23, 24, 25, 26, 27, 28, 29, 30, 31, 32, 33, 34, 17, 18] rfl
    have hD : va_D (fun q => s.heap.size ≤ q) (WL o9 o8 cJ a b cI cZ cD sh sw ts bi (upd it o 1) (upd tu o x2) ne pr so lo (nI t) (nI n) lp lz lu lk ld lf lb lw 0 sh mst ts mbi mpr mba (nI t) (nI n) (upd it o 1) (upd tu o x2) lk mus mud mfs mfb mbo mso mpc mne fo1 fd) := hD.sub [0, 1, 2, 3, 4, 5, 6, 7, 8, 9, 10, 11, 12, 13, 14, 15, 16, 19, 20, 21, 22, 23, 24, 25, 26, 27, 28, 29, 30, 31, 32, 33, 34, 17, 18] (by decide) rfl
    refine xk_i (y := 0) hw ?_
    refine lv_iload hx hb dL_law_401 (lv_at hl 1 rfl) ?_
    refine lv_icmp_eq (tgt := 408) hx hb dL_law_403 (by decide) (fun c => ?_) (fun c => absurd rfl c)
    refine lv_iload hx hb dL_law_408 (lv_at hl 1 rfl) ?_
    refine lv_if_ne (tgt := 432) hx hb dL_law_410 (by decide) (fun c => absurd rfl c) (fun c => ?_)
    refine lv_aload_n hx hb dL_law_413 rfl (lv_at hl 5 rfl) ?_
    refine lv_iconst (v := nI 0) hx hb dL_law_414 (by decide) ?_
    refine va_lald hx hb (yk_Kd hK) hP 33 3 rfl rfl (i := nI 0) (vp_in_nI (by decide) (by decide)) dL_law_415 ?_
    refine xk_l (y := bL (it o)) hv1 ?_
    refine lv_iload hx hb dL_law_416 (lv_at hl 0 rfl) ?_
    refine lv_if_eq (tgt := 425) hx hb dL_law_418 (by decide) (fun c => ?_) (fun c => ?_)
    · skip
      have eb : bL (it o) = 0 := if_pos c
      refine lv_lconst (v := 0) hx hb dL_law_425 (by decide) ?_
      refine W.lcmp hx hb dL_law_426 ?_
      refine xk_i (y := 0) (by rw [eb]; exact lcmp_self _) ?_
      refine lv_if_eq (tgt := 432) hx hb dL_law_427 (by decide) (fun c => ?_) (fun c => absurd rfl c)
      refine lv_goto (tgt := 1232) hx hb dL_law_432 (by decide) ?_
      refine lv_iinc (v := nI (4 * (i + 1))) (lv' := [(5, .int (nI (4 * (i + 1)))), (7, .int (it o)), (6, .int 0), (0, .ref b9), (1, .ref (a 0)), (2, .ref (b 0)), (3, .ref o9), (4, .ref o8)]) hx hb dL_law_1232 hl (k := 7) rfl (iinc4 i) (by decide) rfl (fun ls hl => ?_)
      refine lv_goto (tgt := 28) hx hb dL_law_1235 (by decide) ?_
      refine W.widen (k := 35 + (i + 1)) (n := 3953 + 6 * (i + 1)) (by omega) (by omega) ?_
      exact next _ _ _ _ ⟨n, t, sh, sw, ts, bi, upd it o 1, upd tu o x2, ne, pr, so, lo, lp, lz, lu, lk, ld, lf, lb, lw, 0, mst, mbi, mpr, mba, mus, mud, mfs, mfb, mbo, mso, mpc, mne, fo1, fd, ⟨hn, ht5, hsm, hsw, upd01 hit (Or.inr rfl) o, hbi, hpr, hso, hlu, hld, hlf, hlz9, hlb, hlw, hlz, hlp⟩, hP, hD, hS, hdl, lv_sub hl [3, 4, 5, 6, 7, 0] rfl⟩
    · skip
      have eb : bL (it o) = 1 := if_neg c
      refine lv_lconst (v := 1) hx hb dL_law_421 (by decide) ?_
      refine lv_goto (tgt := 426) hx hb dL_law_422 (by decide) ?_
      refine W.lcmp hx hb dL_law_426 ?_
      refine xk_i (y := 0) (by rw [eb]; exact lcmp_self _) ?_
      refine lv_if_eq (tgt := 432) hx hb dL_law_427 (by decide) (fun c => ?_) (fun c => absurd rfl c)
      refine lv_goto (tgt := 1232) hx hb dL_law_432 (by decide) ?_
      refine lv_iinc (v := nI (4 * (i + 1))) (lv' := [(5, .int (nI (4 * (i + 1)))), (7, .int (it o)), (6, .int 0), (0, .ref b9), (1, .ref (a 0)), (2, .ref (b 0)), (3, .ref o9), (4, .ref o8)]) hx hb dL_law_1232 hl (k := 7) rfl (iinc4 i) (by decide) rfl (fun ls hl => ?_)
      refine lv_goto (tgt := 28) hx hb dL_law_1235 (by decide) ?_
      refine W.widen (k := 35 + (i + 1)) (n := 3953 + 6 * (i + 1)) (by omega) (by omega) ?_
      exact next _ _ _ _ ⟨n, t, sh, sw, ts, bi, upd it o 1, upd tu o x2, ne, pr, so, lo, lp, lz, lu, lk, ld, lf, lb, lw, 0, mst, mbi, mpr, mba, mus, mud, mfs, mfb, mbo, mso, mpc, mne, fo1, fd, ⟨hn, ht5, hsm, hsw, upd01 hit (Or.inr rfl) o, hbi, hpr, hso, hlu, hld, hlf, hlz9, hlb, hlw, hlz, hlp⟩, hP, hD, hS, hdl, lv_sub hl [3, 4, 5, 6, 7, 0] rfl⟩
  · skip
    refine lv_aload_n hx hb dL_law_360 rfl (lv_at hl 1 rfl) ?_
    refine lv_aload_n hx hb dL_law_361 rfl (lv_at hl 0 rfl) ?_
    refine lv_iload hx hb dL_law_362 (lv_at hl 5 rfl) ?_
    refine lv_iconst (v := nI 1) hx hb dL_law_364 (by decide) ?_
    refine lv_iadd hx hb dL_law_365 ?_
    refine xk_i (y := nI (4 * i + 1)) (nI_add _ _) ?_
    refine va_sld hx hb (X_drawn hX) hbl hbA hS (i := nI (4 * i + 1)) (vp_in_nI (by omega) (by omega)) dL_law_366 ?_
    refine xk_i (y := x1) hx1.symm ?_
    refine lv_aload_n hx hb dL_law_367 rfl (lv_at hl 0 rfl) ?_
    refine lv_iload hx hb dL_law_368 (lv_at hl 5 rfl) ?_
    refine lv_iconst (v := nI 2) hx hb dL_law_370 (by decide) ?_
    refine lv_iadd hx hb dL_law_371 ?_
    refine xk_i (y := nI (4 * i + 2)) (nI_add _ _) ?_
    refine va_sld hx hb (X_drawn hX) hbl hbA hS (i := nI (4 * i + 2)) (vp_in_nI (by omega) (by omega)) dL_law_372 ?_
    refine xk_i (y := x2) hx2.symm ?_
    refine lv_aload_n hx hb dL_law_373 rfl (lv_at hl 3 rfl) ?_
    have hPx : va_P D vwCl (XW a cI cZ cD sh sw ts bi it tu ne pr so lo (nI t) (nI n) lp lz lu lk ld lf lb lw) H := hP.sub [0, 1, 2, 3, 4, 5, 6, 7, 8, 9, 10, 11, 12, 13, 14, 15, 16] rfl
    have hDx : va_D (fun q => s.heap.size ≤ q) (XW a cI cZ cD sh sw ts bi it tu ne pr so lo (nI t) (nI n) lp lz lu lk ld lf lb lw) := hD.sub [0, 1, 2, 3, 4, 5, 6, 7, 8, 9, 10, 11, 12, 13, 14, 15, 16] (by decide) rfl
    refine va_calli (vx_runSW (As := [.ref (a 0), .int x1, .int x2, .ref o9]) (rest := []) ⟨hx, hb, hml, xk_od hown, dr_words hts _⟩ (mL_tellX l hst D cI cZ cD a H sh sw ts bi it tu ne pr so lo (nI t) (nI n) lp lz lu lk ld lf lb lw o9 x1 x2 hg) (vx_cwSW 4 (dr_words hts _) gL_law_L_tell rfl rfl rfl (by decide +kernel) ⟨Nat.le_of_ble_eq_true rfl, Nat.le_of_ble_eq_true rfl⟩) ⟨zq_blind, zq_pre hPx ((yk_Kd hK).sub [0, 1, 2] rfl) hDx hE.drawn hN.drawn hS hA⟩ rfl rfl hl.1 rfl (lv_room (Nat.le_of_ble_eq_true rfl)) dL_law_374 ⟨(by show _ ≤ 1065; omega), (by show _ ≤ 12181; omega)⟩) hS (fun q h1 h2 => absurd h2 (Nat.not_le.mpr h1)) (fun q h => Nat.le_trans hS.1 h) (fun r u t9 H9 locs ht hvm hwr hB hz1 hk1 hS => ?_)
    have hP : va_P D vwCl (WL o9 o8 cJ a b cI cZ cD sh sw ts bi it tu ne pr so lo (nI t) (nI n) lp lz lu lk ld lf lb lw mth sh mst ts mbi mpr mba (nI t) (nI n) it tu lk mus mud mfs mfb mbo mso mpc mne fo fd) H9 := hP.kept (fun k q hq => hk1 q.1 (hP k q hq).lt (Nat.not_le.mpr (hP k q hq).lt))
    generalize H9 = H at hP hS ⊢
    refine lv_istore (lv' := [(6, .int r), (0, .ref b9), (1, .ref (a 0)), (2, .ref (b 0)), (3, .ref o9), (4, .ref o8), (5, .int (nI (4 * i)))]) hx hb dL_law_377 hl (by decide) rfl (fun ls hl => ?_)
    refine lv_aload_n hx hb dL_law_379 rfl (lv_at hl 3 rfl) ?_
    refine lv_aload_n hx hb dL_law_380 rfl (lv_at hl 1 rfl) ?_
    refine lv_iload hx hb dL_law_381 (lv_at hl 6 rfl) ?_
    refine lv_iconst (v := nI 1) hx hb dL_law_383 (by decide) ?_
    refine lv_iadd hx hb dL_law_384 ?_
    refine xk_i (y := nI (4 * i + 1)) (nI_add _ _) ?_
    refine va_sld hx hb (X_drawn hX) hbl hbA hS (i := nI (4 * i + 1)) (vp_in_nI (by omega) (by omega)) dL_law_385 ?_
    refine xk_i (y := x1) hx1.symm ?_
    refine lv_aload_n hx hb dL_law_386 rfl (lv_at hl 1 rfl) ?_
    refine lv_iload hx hb dL_law_387 (lv_at hl 6 rfl) ?_
    refine lv_iconst (v := nI 2) hx hb dL_law_389 (by decide) ?_
    refine lv_iadd hx hb dL_law_390 ?_
    refine xk_i (y := nI (4 * i + 2)) (nI_add _ _) ?_
    refine va_sld hx hb (X_drawn hX) hbl hbA hS (i := nI (4 * i + 2)) (vp_in_nI (by omega) (by omega)) dL_law_391 ?_
    refine xk_i (y := x2) hx2.symm ?_
    have hPc : va_P D vwCl (MW b cI cZ cD mth sh mst ts mbi mpr mba (nI t) (nI n) it tu lk mus mud mfs mfb mbo mso mpc mne) H := hP.sub [17, 18, 19, 20, 21, 22, 23, 24, 25, 26, 27, 28, 29, 30, 31, 32] rfl
    have hDc : va_D (fun q => s.heap.size ≤ q) (MW b cI cZ cD mth sh mst ts mbi mpr mba (nI t) (nI n) it tu lk mus mud mfs mfb mbo mso mpc mne) := hD.sub [17, 18, 19, 20, 21, 22, 23, 24, 25, 26, 27, 28, 29, 30, 31, 32] (by decide) rfl
    have hFc := va_free (wc := MW b cI cZ cD mth sh mst ts mbi mpr mba (nI t) (nI n) it tu lk mus mud mfs mfb mbo mso mpc mne) hD hS hA [17, 18, 19, 20, 21, 22, 23, 24, 25, 26, 27, 28, 29, 30, 31, 32] rfl
    refine va_calli (va_runV (As := [.int x1, .int x2]) (rest := []) ⟨hx, hb, hml, xk_od hown, dr_words hts _⟩ (mX2_tellX l D cI cZ cD b _ mth sh mst ts mbi mpr mba (nI t) (nI n) it tu lk mus mud mfs mfb mbo mso mpc mne x1 x2 hg) (cwV 2 (dr_words hts _) gL_law_X2_tell rfl rfl rfl (by decide +kernel) ⟨Nat.le_of_ble_eq_true rfl, Nat.le_of_ble_eq_true rfl⟩) ⟨xk_blind, va_recv (yk_Kd hK) hP (ci := 2) (q0 := 17) rfl rfl, xk_pre hPc ((yk_Kd hK).sub [0, 1, 2] rfl) hDc⟩ rfl rfl hl.1 rfl (lv_room (Nat.le_of_ble_eq_true rfl)) dL_law_392 ⟨(by show _ ≤ 1065; omega), (by show _ ≤ 12181; omega)⟩) hS (fun q _ h => hFc q h) hFc (fun r2 u t9 H locs ht hvm hw hB hz1 hk1 hS => ?_)
    obtain ⟨hP1, -, hD1⟩ := hB
    rw [ht] at hP1
    obtain ⟨hP, hD⟩ := va_join (wr := XW a cI cZ cD sh sw ts bi it tu ne pr so lo (nI t) (nI n) lp lz lu lk ld lf lb lw ++ [(o9, .inl (cJ, 1, .inr (.inl fo))), (o8, .inl (cD, 1, .inr (.inr (.inr (.inl fd)))))]) (w1 := MW b cI cZ cD 1 sh mst ts mbi mpr mba (nI t) (nI n) it tu lk mus mud mfs mfb mbo mso mpc mne) hP hD [17, 18, 19, 20, 21, 22, 23, 24, 25, 26, 27, 28, 29, 30, 31, 32] [0, 1, 2, 3, 4, 5, 6, 7, 8, 9, 10, 11, 12, 13, 14, 15, 16, 33, 34] rfl rfl (by decide) (by decide) hk1 hFc hP1 hD1
    have hP : va_P D vwCl (WL o9 o8 cJ a b cI cZ cD sh sw ts bi it tu ne pr so lo (nI t) (nI n) lp lz lu lk ld lf lb lw 1 sh mst ts mbi mpr mba (nI t) (nI n) it tu lk mus mud mfs mfb mbo mso mpc mne fo fd) H := hP.sub [0, 1, 2, 3, 4, 5, 6, 7, 8, 9, 10, 11, 12, 13, 14, 15, 16, 19, 20, 21, 22, 23, 24, 25, 26, 27, 28, 29, 30, 31, 32, 33, 34, 17, 18] rfl
    have hD : va_D (fun q => s.heap.size ≤ q) (WL o9 o8 cJ a b cI cZ cD sh sw ts bi it tu ne pr so lo (nI t) (nI n) lp lz lu lk ld lf lb lw 1 sh mst ts mbi mpr mba (nI t) (nI n) it tu lk mus mud mfs mfb mbo mso mpc mne fo fd) := hD.sub [0, 1, 2, 3, 4, 5, 6, 7, 8, 9, 10, 11, 12, 13, 14, 15, 16, 19, 20, 21, 22, 23, 24, 25, 26, 27, 28, 29, 30, 31, 32, 33, 34, 17, 18] (by decide) rfl
    refine lv_istore (lv' := [(7, .int r2), (6, .int r), (0, .ref b9), (1, .ref (a 0)), (2, .ref (b 0)), (3, .ref o9), (4, .ref o8), (5, .int (nI (4 * i)))]) hx hb dL_law_395 hl (by decide) rfl (fun ls hl => ?_)
    have hur : 1 = r ∧ ¬ r = 0 := ⟨by rw [hwr], by rw [hwr]; decide⟩
    refine lv_aload_n hx hb dL_law_397 rfl (lv_at hl 4 rfl) ?_
    have hPc : va_P D vwCl (MW b cI cZ cD 1 sh mst ts mbi mpr mba (nI t) (nI n) it tu lk mus mud mfs mfb mbo mso mpc mne) H := hP.sub [17, 18, 19, 20, 21, 22, 23, 24, 25, 26, 27, 28, 29, 30, 31, 32] rfl
    have hDc : va_D (fun q => s.heap.size ≤ q) (MW b cI cZ cD 1 sh mst ts mbi mpr mba (nI t) (nI n) it tu lk mus mud mfs mfb mbo mso mpc mne) := hD.sub [17, 18, 19, 20, 21, 22, 23, 24, 25, 26, 27, 28, 29, 30, 31, 32] (by decide) rfl
    have hFc := va_free (wc := MW b cI cZ cD 1 sh mst ts mbi mpr mba (nI t) (nI n) it tu lk mus mud mfs mfb mbo mso mpc mne) hD hS hA [17, 18, 19, 20, 21, 22, 23, 24, 25, 26, 27, 28, 29, 30, 31, 32] rfl
    refine va_calli (va_runV (As := []) (rest := []) ⟨hx, hb, hml, xk_od hown, dr_words hts _⟩ (mX2_thrown l D cI cZ cD b _ 1 sh mst ts mbi mpr mba (nI t) (nI n) it tu lk mus mud mfs mfb mbo mso mpc mne ) (cwV 0 (dr_words hts _) gL_law_X2_thrown rfl rfl rfl (by decide +kernel) ⟨Nat.le_of_ble_eq_true rfl, Nat.le_of_ble_eq_true rfl⟩) ⟨xk_blind, va_recv (yk_Kd hK) hP (ci := 2) (q0 := 17) rfl rfl, xk_pre hPc ((yk_Kd hK).sub [0, 1, 2] rfl) hDc⟩ rfl rfl hl.1 rfl (lv_room (Nat.le_of_ble_eq_true rfl)) dL_law_398 ⟨(by show _ ≤ 1065; omega), (by show _ ≤ 12181; omega)⟩) hS (fun q _ h => hFc q h) hFc (fun r8 u8 t9 H locs ht hvm hw hB hz1 hk1 hS => ?_)
    obtain ⟨hP1, -, hD1⟩ := hB
    rw [ht] at hP1
    obtain ⟨hP, hD⟩ := va_join (wr := XW a cI cZ cD sh sw ts bi it tu ne pr so lo (nI t) (nI n) lp lz lu lk ld lf lb lw ++ [(o9, .inl (cJ, 1, .inr (.inl fo))), (o8, .inl (cD, 1, .inr (.inr (.inr (.inl fd)))))]) (w1 := MW b cI cZ cD 1 sh mst ts mbi mpr mba (nI t) (nI n) it tu lk mus mud mfs mfb mbo mso mpc mne) hP hD [17, 18, 19, 20, 21, 22, 23, 24, 25, 26, 27, 28, 29, 30, 31, 32] [0, 1, 2, 3, 4, 5, 6, 7, 8, 9, 10, 11, 12, 13, 14, 15, 16, 33, 34] rfl rfl (by decide) (by decide) hk1 hFc hP1 hD1
    have hP : va_P D vwCl (WL o9 o8 cJ a b cI cZ cD sh sw ts bi it tu ne pr so lo (nI t) (nI n) lp lz lu lk ld lf lb lw 1 sh mst ts mbi mpr mba (nI t) (nI n) it tu lk mus mud mfs mfb mbo mso mpc mne fo fd) H := hP.sub [0, 1, 2, 3, 4, 5, 6, 7, 8, 9, 10, 11, 12, 13, 14, 15, 16, 19, 20, 21, 22, 23, 24, 25, 26, 27, 28, 29, 30, 31, 32, 33, 34, 17, 18] rfl
    have hD : va_D (fun q => s.heap.size ≤ q) (WL o9 o8 cJ a b cI cZ cD sh sw ts bi it tu ne pr so lo (nI t) (nI n) lp lz lu lk ld lf lb lw 1 sh mst ts mbi mpr mba (nI t) (nI n) it tu lk mus mud mfs mfb mbo mso mpc mne fo fd) := hD.sub [0, 1, 2, 3, 4, 5, 6, 7, 8, 9, 10, 11, 12, 13, 14, 15, 16, 19, 20, 21, 22, 23, 24, 25, 26, 27, 28, 29, 30, 31, 32, 33, 34, 17, 18] (by decide) rfl
    refine xk_i (y := 1) hw ?_
    refine lv_iload hx hb dL_law_401 (lv_at hl 1 rfl) ?_
    refine lv_icmp_eq (tgt := 408) hx hb dL_law_403 (by decide) (fun c => ?_) (fun c => absurd hur.1 c)
    refine lv_iload hx hb dL_law_408 (lv_at hl 1 rfl) ?_
    refine lv_if_ne (tgt := 432) hx hb dL_law_410 (by decide) (fun c => ?_) (fun c => absurd c hur.2)
    refine lv_goto (tgt := 1232) hx hb dL_law_432 (by decide) ?_
    refine lv_iinc (v := nI (4 * (i + 1))) (lv' := [(5, .int (nI (4 * (i + 1)))), (7, .int r2), (6, .int r), (0, .ref b9), (1, .ref (a 0)), (2, .ref (b 0)), (3, .ref o9), (4, .ref o8)]) hx hb dL_law_1232 hl (k := 7) rfl (iinc4 i) (by decide) rfl (fun ls hl => ?_)
    refine lv_goto (tgt := 28) hx hb dL_law_1235 (by decide) ?_
    refine W.widen (k := 35 + (i + 1)) (n := 3953 + 6 * (i + 1)) (by omega) (by omega) ?_
    exact next _ _ _ _ ⟨n, t, sh, sw, ts, bi, it, tu, ne, pr, so, lo, lp, lz, lu, lk, ld, lf, lb, lw, 1, mst, mbi, mpr, mba, mus, mud, mfs, mfb, mbo, mso, mpc, mne, fo, fd, ⟨hn, ht5, hsm, hsw, hit, hbi, hpr, hso, hlu, hld, hlf, hlz9, hlb, hlw, hlz, hlp⟩, hP, hD, hS, hdl, lv_sub hl [3, 4, 5, 6, 7, 0] rfl⟩
set_option maxHeartbeats 4000000 in
set_option maxRecDepth 100000 in
theorem ls_7 {p : Program} {l : Launch} {e : Env} {s : State} {m : MethodId} {below : List Frame} {meth : Method} {c : Code} {b9 L : Nat} {xs : Nat → Int32} {D : va_G} {cI cZ cD cJ : ClassId} (C : LC l p s m meth c b9 L xs D cI cZ cD cJ) {a b : Nat → Nat} {o9 o8 i : Nat} (hi4 : 4 * i + 4 ≤ L) {H : Heap} {locs : List Loc} {ls : Array Slot} {d : Drawn} (hI : LInv s D cI cZ cD cJ a b b9 o9 o8 i H locs ls d) (next : ∀ (H' : Heap) (locs' : List Loc) (ls' : Array Slot) (d' : Drawn), LInv s D cI cZ cD cJ a b b9 o9 o8 (i + 1) H' locs' ls' d' → W p l e room_1 (s.setDrawn d') m #[Value.ref b9] below meth c H' locs' (35 + (i + 1)) (3953 + 6 * (i + 1)) (lw_Z below #[Value.ref b9] s) (F0 m 28 ls' [])) : W p l e room_1 (s.setDrawn d) m #[Value.ref b9] below meth c H locs (35 + i) (3953 + 6 * i) (lw_Z below #[Value.ref b9] s) (F0 m 612 ls []) := by
  obtain ⟨hst, hL, C0, hE, hN, hK⟩ := C
  obtain ⟨hx, hb, hr, hml, hown, hts0, hX, hbl, hlocks, hgv⟩ := C0
  have hts : ∀ w ∈ wsL_law, w.before #[Value.ref b9] s = true := fun w h => hts0 w (wsL_law_in w h)
  obtain ⟨n, t, sh, sw, ts, bi, it, tu, ne, pr, so, lo, lp, lz, lu, lk, ld, lf, lb, lw, mth, mst, mbi, mpr, mba, mus, mud, mfs, mfb, mbo, mso, mpc, mne, fo, fd, ⟨hn, ht5, hsm, hsw, hit, hbi, hpr, hso, hlu, hld, hlf, hlz9, hlb, hlw, hlz, hlp⟩, hP, hD, hS, hdl, hl⟩ := hI
  have hA : ∀ q : Nat, s.heap.size ≤ q → (fun q => s.heap.size ≤ q) q := fun q h => h
  have hbA : ¬ (fun q => s.heap.size ≤ q) b9 := Nat.not_le.mpr hbl
  obtain ⟨x1, hx1⟩ : ∃ x, x = xs (nI (4 * i + 1)).toNatClampNeg := ⟨_, rfl⟩
  obtain ⟨x2, hx2⟩ : ∃ x, x = xs (nI (4 * i + 2)).toNatClampNeg := ⟨_, rfl⟩
  by_cases hg : inR x1 0 4 ∧ isQ n x2
  · skip
    obtain ⟨g1, g2⟩ := hg
    obtain ⟨o, ho4, rfl⟩ := inR_nI (n := 4) (by decide) g1
    have ho : o < 5 := by omega
    obtain ⟨q, hq, rfl⟩ := isQ_nI (by omega) g2
    refine lv_aload_n hx hb dL_law_612 rfl (lv_at hl 1 rfl) ?_
    refine lv_aload_n hx hb dL_law_613 rfl (lv_at hl 0 rfl) ?_
    refine lv_iload hx hb dL_law_614 (lv_at hl 5 rfl) ?_
    refine lv_iconst (v := nI 1) hx hb dL_law_616 (by decide) ?_
    refine lv_iadd hx hb dL_law_617 ?_
    refine xk_i (y := nI (4 * i + 1)) (nI_add _ _) ?_
    refine va_sld hx hb (X_drawn hX) hbl hbA hS (i := nI (4 * i + 1)) (vp_in_nI (by omega) (by omega)) dL_law_618 ?_
    refine xk_i (y := nI o) hx1.symm ?_
    refine lv_aload_n hx hb dL_law_619 rfl (lv_at hl 0 rfl) ?_
    refine lv_iload hx hb dL_law_620 (lv_at hl 5 rfl) ?_
    refine lv_iconst (v := nI 2) hx hb dL_law_622 (by decide) ?_
    refine lv_iadd hx hb dL_law_623 ?_
    refine xk_i (y := nI (4 * i + 2)) (nI_add _ _) ?_
    refine va_sld hx hb (X_drawn hX) hbl hbA hS (i := nI (4 * i + 2)) (vp_in_nI (by omega) (by omega)) dL_law_624 ?_
    refine xk_i (y := nI q) hx2.symm ?_
    refine lv_aload hx hb dL_law_625 (lv_at hl 4 rfl) ?_
    have hPc : va_P D vwCl (XWD o8 a cI cZ cD sh sw ts bi it tu ne pr so lo (nI t) (nI n) lp lz lu lk ld lf lb lw fd) H := hP.sub [0, 1, 2, 3, 4, 5, 6, 7, 8, 9, 10, 11, 12, 13, 14, 15, 16, 34] rfl
    have hDc : va_D (fun q => s.heap.size ≤ q) (XWD o8 a cI cZ cD sh sw ts bi it tu ne pr so lo (nI t) (nI n) lp lz lu lk ld lf lb lw fd) := hD.sub [0, 1, 2, 3, 4, 5, 6, 7, 8, 9, 10, 11, 12, 13, 14, 15, 16, 34] (by decide) rfl
    have hFc := va_free (wc := XWD o8 a cI cZ cD sh sw ts bi it tu ne pr so lo (nI t) (nI n) lp lz lu lk ld lf lb lw fd) hD hS hA [0, 1, 2, 3, 4, 5, 6, 7, 8, 9, 10, 11, 12, 13, 14, 15, 16, 34] rfl
    refine va_calli (vx_runSW (As := [.ref (a 0), .int (nI o), .int (nI q), .ref o8]) (rest := []) ⟨hx, hb, hml, xk_od hown, dr_words hts _⟩ (mL_useV l D cI cZ cD cJ a o8 _ sh sw ts bi it tu ne pr so lo (nI t) lp lz lu lk ld lf lb lw fd n o q hn ho hq) (vx_cwSW 4 (dr_words hts _) gL_law_L_use rfl rfl rfl (by decide +kernel) ⟨Nat.le_of_ble_eq_true rfl, Nat.le_of_ble_eq_true rfl⟩) ⟨yk_blind, yk_pre hPc (yk_Kd hK) hDc⟩ rfl rfl hl.1 rfl (lv_room (Nat.le_of_ble_eq_true rfl)) dL_law_627 ⟨(by show _ ≤ 1065; omega), (by show _ ≤ 12181; omega)⟩) hS (fun q _ h => hFc q h) hFc (fun r u t9 H locs ht hvm hw hB hz1 hk1 hS => ?_)
    obtain ⟨z, fd1⟩ := u
    obtain ⟨rfl, hv1, hv2⟩ := hw
    dsimp only at hv1 hv2
    obtain ⟨hP1, -, hD1⟩ := hB
    rw [ht] at hP1
    obtain ⟨hP, hD⟩ := va_join (wr := MW b cI cZ cD mth sh mst ts mbi mpr mba (nI t) (nI n) it tu lk mus mud mfs mfb mbo mso mpc mne ++ [(o9, .inl (cJ, 1, .inr (.inl fo)))]) (w1 := XWD o8 a cI cZ cD sh sw ts bi it tu ne pr so lo (nI t) (nI n) lp lz lu lk ld lf lb lw fd1) hP hD [0, 1, 2, 3, 4, 5, 6, 7, 8, 9, 10, 11, 12, 13, 14, 15, 16, 34] [17, 18, 19, 20, 21, 22, 23, 24, 25, 26, 27, 28, 29, 30, 31, 32, 33] rfl rfl (by decide) (by decide) hk1 hFc hP1 hD1
    have hP : va_P D vwCl (WL o9 o8 cJ a b cI cZ cD sh sw ts bi it tu ne pr so lo (nI t) (nI n) lp lz lu lk ld lf lb lw mth sh mst ts mbi mpr mba (nI t) (nI n) it tu lk mus mud mfs mfb mbo mso mpc mne fo fd1) H := hP.sub [17, 18, 19, 20, 21, 22, 23, 24, 25, 26, 27, 28, 29, 30, 31, 32, 33, 0, 1, 2, 3, 4, 5, 6, 7, 8, 9, 10, 11, 12, 13, 14, 15, 16, 34] rfl
    have hD : va_D (fun q => s.heap.size ≤ q) (WL o9 o8 cJ a b cI cZ cD sh sw ts bi it tu ne pr so lo (nI t) (nI n) lp lz lu lk ld lf lb lw mth sh mst ts mbi mpr mba (nI t) (nI n) it tu lk mus mud mfs mfb mbo mso mpc mne fo fd1) := hD.sub [17, 18, 19, 20, 21, 22, 23, 24, 25, 26, 27, 28, 29, 30, 31, 32, 33, 0, 1, 2, 3, 4, 5, 6, 7, 8, 9, 10, 11, 12, 13, 14, 15, 16, 34] (by decide) rfl
    refine lv_istore (lv' := [(6, .int 0), (0, .ref b9), (1, .ref (a 0)), (2, .ref (b 0)), (3, .ref o9), (4, .ref o8), (5, .int (nI (4 * i)))]) hx hb dL_law_630 hl (by decide) rfl (fun ls hl => ?_)
    refine lv_aload_n hx hb dL_law_632 rfl (lv_at hl 3 rfl) ?_
    refine lv_aload_n hx hb dL_law_633 rfl (lv_at hl 1 rfl) ?_
    refine lv_iload hx hb dL_law_634 (lv_at hl 6 rfl) ?_
    refine lv_iconst (v := nI 1) hx hb dL_law_636 (by decide) ?_
    refine lv_iadd hx hb dL_law_637 ?_
    refine xk_i (y := nI (4 * i + 1)) (nI_add _ _) ?_
    refine va_sld hx hb (X_drawn hX) hbl hbA hS (i := nI (4 * i + 1)) (vp_in_nI (by omega) (by omega)) dL_law_638 ?_
    refine xk_i (y := nI o) hx1.symm ?_
    refine lv_aload_n hx hb dL_law_639 rfl (lv_at hl 1 rfl) ?_
    refine lv_iload hx hb dL_law_640 (lv_at hl 6 rfl) ?_
    refine lv_iconst (v := nI 2) hx hb dL_law_642 (by decide) ?_
    refine lv_iadd hx hb dL_law_643 ?_
    refine xk_i (y := nI (4 * i + 2)) (nI_add _ _) ?_
    refine va_sld hx hb (X_drawn hX) hbl hbA hS (i := nI (4 * i + 2)) (vp_in_nI (by omega) (by omega)) dL_law_644 ?_
    refine xk_i (y := nI q) hx2.symm ?_
    have hPc : va_P D vwCl (MW b cI cZ cD mth sh mst ts mbi mpr mba (nI t) (nI n) it tu lk mus mud mfs mfb mbo mso mpc mne) H := hP.sub [17, 18, 19, 20, 21, 22, 23, 24, 25, 26, 27, 28, 29, 30, 31, 32] rfl
    have hDc : va_D (fun q => s.heap.size ≤ q) (MW b cI cZ cD mth sh mst ts mbi mpr mba (nI t) (nI n) it tu lk mus mud mfs mfb mbo mso mpc mne) := hD.sub [17, 18, 19, 20, 21, 22, 23, 24, 25, 26, 27, 28, 29, 30, 31, 32] (by decide) rfl
    have hFc := va_free (wc := MW b cI cZ cD mth sh mst ts mbi mpr mba (nI t) (nI n) it tu lk mus mud mfs mfb mbo mso mpc mne) hD hS hA [17, 18, 19, 20, 21, 22, 23, 24, 25, 26, 27, 28, 29, 30, 31, 32] rfl
    refine va_calld (va_runV (As := [.int (nI o), .int (nI q)]) (rest := []) ⟨hx, hb, hml, xk_od hown, dr_words hts _⟩ (mX2_useV l D cI cZ cD b _ mth sh mst ts mbi mpr mba (nI t) it tu lk mus mud mfs mfb mbo mso mpc mne n o q hn ho hq) (cwV 2 (dr_words hts _) gL_law_X2_use rfl rfl rfl (by decide +kernel) ⟨Nat.le_of_ble_eq_true rfl, Nat.le_of_ble_eq_true rfl⟩) ⟨xk_blind, va_recv (yk_Kd hK) hP (ci := 2) (q0 := 17) rfl rfl, xk_pre hPc ((yk_Kd hK).sub [0, 1, 2] rfl) hDc⟩ rfl rfl hl.1 rfl (lv_room (Nat.le_of_ble_eq_true rfl)) dL_law_645 ⟨(by show _ ≤ 1065; omega), (by show _ ≤ 12181; omega)⟩) hS (fun q _ h => hFc q h) hFc (fun r2 u t9 H locs ht hvm hw hB hz1 hk1 hS => ?_)
    obtain ⟨hP1, -, hD1⟩ := hB
    rw [ht] at hP1
    obtain ⟨hP, hD⟩ := va_join (wr := XW a cI cZ cD sh sw ts bi it tu ne pr so lo (nI t) (nI n) lp lz lu lk ld lf lb lw ++ [(o9, .inl (cJ, 1, .inr (.inl fo))), (o8, .inl (cD, 1, .inr (.inr (.inr (.inl fd1)))))]) (w1 := MW b cI cZ cD 0 sh mst ts mbi mpr mba (nI t) (nI n) it tu lk mus mud mfs mfb mbo mso mpc mne) hP hD [17, 18, 19, 20, 21, 22, 23, 24, 25, 26, 27, 28, 29, 30, 31, 32] [0, 1, 2, 3, 4, 5, 6, 7, 8, 9, 10, 11, 12, 13, 14, 15, 16, 33, 34] rfl rfl (by decide) (by decide) hk1 hFc hP1 hD1
    have hP : va_P D vwCl (WL o9 o8 cJ a b cI cZ cD sh sw ts bi it tu ne pr so lo (nI t) (nI n) lp lz lu lk ld lf lb lw 0 sh mst ts mbi mpr mba (nI t) (nI n) it tu lk mus mud mfs mfb mbo mso mpc mne fo fd1) H := hP.sub [0, 1, 2, 3, 4, 5, 6, 7, 8, 9, 10, 11, 12, 13, 14, 15, 16, 19, 20, 21, 22, 23, 24, 25, 26, 27, 28, 29, 30, 31, 32, 33, 34, 17, 18] rfl
    have hD : va_D (fun q => s.heap.size ≤ q) (WL o9 o8 cJ a b cI cZ cD sh sw ts bi it tu ne pr so lo (nI t) (nI n) lp lz lu lk ld lf lb lw 0 sh mst ts mbi mpr mba (nI t) (nI n) it tu lk mus mud mfs mfb mbo mso mpc mne fo fd1) := hD.sub [0, 1, 2, 3, 4, 5, 6, 7, 8, 9, 10, 11, 12, 13, 14, 15, 16, 19, 20, 21, 22, 23, 24, 25, 26, 27, 28, 29, 30, 31, 32, 33, 34, 17, 18] (by decide) rfl
    have hnz : nz (dt (fd1 0)) (dt r2) := by rw [hv1, hw]; exact Or.inl (dts_e hlu _)
    refine lv_dstore (lv' := [(7, .double r2), (6, .int 0), (0, .ref b9), (1, .ref (a 0)), (2, .ref (b 0)), (3, .ref o9), (4, .ref o8), (5, .int (nI (4 * i)))]) hx hb dL_law_648 hl (by decide) rfl (fun ls hl => ?_)
    refine lv_aload_n hx hb dL_law_650 rfl (lv_at hl 4 rfl) ?_
    have hPc : va_P D vwCl (MW b cI cZ cD 0 sh mst ts mbi mpr mba (nI t) (nI n) it tu lk mus mud mfs mfb mbo mso mpc mne) H := hP.sub [17, 18, 19, 20, 21, 22, 23, 24, 25, 26, 27, 28, 29, 30, 31, 32] rfl
    have hDc : va_D (fun q => s.heap.size ≤ q) (MW b cI cZ cD 0 sh mst ts mbi mpr mba (nI t) (nI n) it tu lk mus mud mfs mfb mbo mso mpc mne) := hD.sub [17, 18, 19, 20, 21, 22, 23, 24, 25, 26, 27, 28, 29, 30, 31, 32] (by decide) rfl
    have hFc := va_free (wc := MW b cI cZ cD 0 sh mst ts mbi mpr mba (nI t) (nI n) it tu lk mus mud mfs mfb mbo mso mpc mne) hD hS hA [17, 18, 19, 20, 21, 22, 23, 24, 25, 26, 27, 28, 29, 30, 31, 32] rfl
    refine va_calli (va_runV (As := []) (rest := []) ⟨hx, hb, hml, xk_od hown, dr_words hts _⟩ (mX2_thrown l D cI cZ cD b _ 0 sh mst ts mbi mpr mba (nI t) (nI n) it tu lk mus mud mfs mfb mbo mso mpc mne ) (cwV 0 (dr_words hts _) gL_law_X2_thrown rfl rfl rfl (by decide +kernel) ⟨Nat.le_of_ble_eq_true rfl, Nat.le_of_ble_eq_true rfl⟩) ⟨xk_blind, va_recv (yk_Kd hK) hP (ci := 2) (q0 := 17) rfl rfl, xk_pre hPc ((yk_Kd hK).sub [0, 1, 2] rfl) hDc⟩ rfl rfl hl.1 rfl (lv_room (Nat.le_of_ble_eq_true rfl)) dL_law_651 ⟨(by show _ ≤ 1065; omega), (by show _ ≤ 12181; omega)⟩) hS (fun q _ h => hFc q h) hFc (fun r8 u8 t9 H locs ht hvm hw hB hz1 hk1 hS => ?_)
    obtain ⟨hP1, -, hD1⟩ := hB
    rw [ht] at hP1
    obtain ⟨hP, hD⟩ := va_join (wr := XW a cI cZ cD sh sw ts bi it tu ne pr so lo (nI t) (nI n) lp lz lu lk ld lf lb lw ++ [(o9, .inl (cJ, 1, .inr (.inl fo))), (o8, .inl (cD, 1, .inr (.inr (.inr (.inl fd1)))))]) (w1 := MW b cI cZ cD 0 sh mst ts mbi mpr mba (nI t) (nI n) it tu lk mus mud mfs mfb mbo mso mpc mne) hP hD [17, 18, 19, 20, 21, 22, 23, 24, 25, 26, 27, 28, 29, 30, 31, 32] [0, 1, 2, 3, 4, 5, 6, 7, 8, 9, 10, 11, 12, 13, 14, 15, 16, 33, 34] rfl rfl (by decide) (by decide) hk1 hFc hP1 hD1
    have hP : va_P D vwCl (WL o9 o8 cJ a b cI cZ cD sh sw ts bi it tu ne pr so lo (nI t) (nI n) lp lz lu lk ld lf lb lw 0 sh mst ts mbi mpr mba (nI t) (nI n) it tu lk mus mud mfs mfb mbo mso mpc mne fo fd1) H := hP.sub [0, 1, 2, 3, 4, 5, 6, 7, 8, 9, 10, 11, 12, 13, 14, 15, 16, 19, 20, 21, 22, 23, 24, 25, 26, 27, 28, 29, 30, 31, 32, 33, 34, 17, 18] rfl
    have hD : va_D (fun q => s.heap.size ≤ q) (WL o9 o8 cJ a b cI cZ cD sh sw ts bi it tu ne pr so lo (nI t) (nI n) lp lz lu lk ld lf lb lw 0 sh mst ts mbi mpr mba (nI t) (nI n) it tu lk mus mud mfs mfb mbo mso mpc mne fo fd1) := hD.sub [0, 1, 2, 3, 4, 5, 6, 7, 8, 9, 10, 11, 12, 13, 14, 15, 16, 19, 20, 21, 22, 23, 24, 25, 26, 27, 28, 29, 30, 31, 32, 33, 34, 17, 18] (by decide) rfl
    refine xk_i (y := 0) hw ?_
    refine lv_iload hx hb dL_law_654 (lv_at hl 1 rfl) ?_
    refine lv_icmp_eq (tgt := 661) hx hb dL_law_656 (by decide) (fun c => ?_) (fun c => absurd rfl c)
    refine lv_iload hx hb dL_law_661 (lv_at hl 1 rfl) ?_
    refine lv_if_ne (tgt := 698) hx hb dL_law_663 (by decide) (fun c => absurd rfl c) (fun c => ?_)
    refine lv_aload hx hb dL_law_666 (lv_at hl 6 rfl) ?_
    refine lv_iconst (v := nI 0) hx hb dL_law_668 (by decide) ?_
    refine xk_dald hx hb (yk_Kd hK) hP 34 2 rfl rfl (o := 0) (by decide) (by decide) dL_law_669 ?_
    refine lv_dload hx hb dL_law_670 (lv_at hl 0 rfl) ?_
    refine lv_dcmp hx hb dL_law_672 ?_
    refine lv_if_eq (tgt := 698) hx hb dL_law_673 (by decide) (fun c => ?_) (fun c => ?_)
    · skip
      refine lv_goto (tgt := 1232) hx hb dL_law_698 (by decide) ?_
      refine lv_iinc (v := nI (4 * (i + 1))) (lv' := [(5, .int (nI (4 * (i + 1)))), (7, .double r2), (6, .int 0), (0, .ref b9), (1, .ref (a 0)), (2, .ref (b 0)), (3, .ref o9), (4, .ref o8)]) hx hb dL_law_1232 hl (k := 7) rfl (iinc4 i) (by decide) rfl (fun ls hl => ?_)
      refine lv_goto (tgt := 28) hx hb dL_law_1235 (by decide) ?_
      refine W.widen (k := 35 + (i + 1)) (n := 3953 + 6 * (i + 1)) (by omega) (by omega) ?_
      exact next _ _ _ _ ⟨n, t, sh, sw, ts, bi, it, tu, ne, pr, so, lo, lp, lz, lu, lk, ld, lf, lb, lw, 0, mst, mbi, mpr, mba, mus, mud, mfs, mfb, mbo, mso, mpc, mne, fo, fd1, ⟨hn, ht5, hsm, hsw, hit, hbi, hpr, hso, hlu, hld, hlf, hlz9, hlb, hlw, hlz, hlp⟩, hP, hD, hS, hdl, lv_sub hl [3, 4, 5, 6, 7, 0] rfl⟩
    · skip
      have hnn := (dCmp_nz hnz).resolve_left (fun z => c ((cv_l_eq _).mpr z))
      refine lv_aload hx hb dL_law_676 (lv_at hl 6 rfl) ?_
      refine lv_iconst (v := nI 0) hx hb dL_law_678 (by decide) ?_
      refine xk_dald hx hb (yk_Kd hK) hP 34 2 rfl rfl (o := 0) (by decide) (by decide) dL_law_679 ?_
      refine lv_aload hx hb dL_law_680 (lv_at hl 6 rfl) ?_
      refine lv_iconst (v := nI 0) hx hb dL_law_682 (by decide) ?_
      refine xk_dald hx hb (yk_Kd hK) hP 34 2 rfl rfl (o := 0) (by decide) (by decide) dL_law_683 ?_
      refine lv_dcmp hx hb dL_law_684 ?_
      refine lv_if_eq (tgt := 696) hx hb dL_law_685 (by decide) (fun c => absurd c (nan_ne hnn.1)) (fun c => ?_)
      refine lv_dload hx hb dL_law_688 (lv_at hl 0 rfl) ?_
      refine lv_dload hx hb dL_law_690 (lv_at hl 0 rfl) ?_
      refine lv_dcmp hx hb dL_law_692 ?_
      refine lv_if_ne (tgt := 698) hx hb dL_law_693 (by decide) (fun c => ?_) (fun c => absurd c (nan_ne hnn.2))
      refine lv_goto (tgt := 1232) hx hb dL_law_698 (by decide) ?_
      refine lv_iinc (v := nI (4 * (i + 1))) (lv' := [(5, .int (nI (4 * (i + 1)))), (7, .double r2), (6, .int 0), (0, .ref b9), (1, .ref (a 0)), (2, .ref (b 0)), (3, .ref o9), (4, .ref o8)]) hx hb dL_law_1232 hl (k := 7) rfl (iinc4 i) (by decide) rfl (fun ls hl => ?_)
      refine lv_goto (tgt := 28) hx hb dL_law_1235 (by decide) ?_
      refine W.widen (k := 35 + (i + 1)) (n := 3953 + 6 * (i + 1)) (by omega) (by omega) ?_
      exact next _ _ _ _ ⟨n, t, sh, sw, ts, bi, it, tu, ne, pr, so, lo, lp, lz, lu, lk, ld, lf, lb, lw, 0, mst, mbi, mpr, mba, mus, mud, mfs, mfb, mbo, mso, mpc, mne, fo, fd1, ⟨hn, ht5, hsm, hsw, hit, hbi, hpr, hso, hlu, hld, hlf, hlz9, hlb, hlw, hlz, hlp⟩, hP, hD, hS, hdl, lv_sub hl [3, 4, 5, 6, 7, 0] rfl⟩
  · skip
    refine lv_aload_n hx hb dL_law_612 rfl (lv_at hl 1 rfl) ?_
    refine lv_aload_n hx hb dL_law_613 rfl (lv_at hl 0 rfl) ?_
    refine lv_iload hx hb dL_law_614 (lv_at hl 5 rfl) ?_
    refine lv_iconst (v := nI 1) hx hb dL_law_616 (by decide) ?_
    refine lv_iadd hx hb dL_law_617 ?_
    refine xk_i (y := nI (4 * i + 1)) (nI_add _ _) ?_
    refine va_sld hx hb (X_drawn hX) hbl hbA hS (i := nI (4 * i + 1)) (vp_in_nI (by omega) (by omega)) dL_law_618 ?_
    refine xk_i (y := x1) hx1.symm ?_
    refine lv_aload_n hx hb dL_law_619 rfl (lv_at hl 0 rfl) ?_
    refine lv_iload hx hb dL_law_620 (lv_at hl 5 rfl) ?_
    refine lv_iconst (v := nI 2) hx hb dL_law_622 (by decide) ?_
    refine lv_iadd hx hb dL_law_623 ?_
    refine xk_i (y := nI (4 * i + 2)) (nI_add _ _) ?_
    refine va_sld hx hb (X_drawn hX) hbl hbA hS (i := nI (4 * i + 2)) (vp_in_nI (by omega) (by omega)) dL_law_624 ?_
    refine xk_i (y := x2) hx2.symm ?_
    refine lv_aload hx hb dL_law_625 (lv_at hl 4 rfl) ?_
    have hPx : va_P D vwCl (XW a cI cZ cD sh sw ts bi it tu ne pr so lo (nI t) (nI n) lp lz lu lk ld lf lb lw) H := hP.sub [0, 1, 2, 3, 4, 5, 6, 7, 8, 9, 10, 11, 12, 13, 14, 15, 16] rfl
    have hDx : va_D (fun q => s.heap.size ≤ q) (XW a cI cZ cD sh sw ts bi it tu ne pr so lo (nI t) (nI n) lp lz lu lk ld lf lb lw) := hD.sub [0, 1, 2, 3, 4, 5, 6, 7, 8, 9, 10, 11, 12, 13, 14, 15, 16] (by decide) rfl
    refine va_calli (vx_runSW (As := [.ref (a 0), .int x1, .int x2, .ref o8]) (rest := []) ⟨hx, hb, hml, xk_od hown, dr_words hts _⟩ (mL_useX l hst D cI cZ cD a H sh sw ts bi it tu ne pr so lo (nI t) lp lz lu lk ld lf lb lw o8 n x1 x2 hg) (vx_cwSW 4 (dr_words hts _) gL_law_L_use rfl rfl rfl (by decide +kernel) ⟨Nat.le_of_ble_eq_true rfl, Nat.le_of_ble_eq_true rfl⟩) ⟨zq_blind, zq_pre hPx ((yk_Kd hK).sub [0, 1, 2] rfl) hDx hE.drawn hN.drawn hS hA⟩ rfl rfl hl.1 rfl (lv_room (Nat.le_of_ble_eq_true rfl)) dL_law_627 ⟨(by show _ ≤ 1065; omega), (by show _ ≤ 12181; omega)⟩) hS (fun q h1 h2 => absurd h2 (Nat.not_le.mpr h1)) (fun q h => Nat.le_trans hS.1 h) (fun r u t9 H9 locs ht hvm hwr hB hz1 hk1 hS => ?_)
    have hP : va_P D vwCl (WL o9 o8 cJ a b cI cZ cD sh sw ts bi it tu ne pr so lo (nI t) (nI n) lp lz lu lk ld lf lb lw mth sh mst ts mbi mpr mba (nI t) (nI n) it tu lk mus mud mfs mfb mbo mso mpc mne fo fd) H9 := hP.kept (fun k q hq => hk1 q.1 (hP k q hq).lt (Nat.not_le.mpr (hP k q hq).lt))
    generalize H9 = H at hP hS ⊢
    refine lv_istore (lv' := [(6, .int r), (0, .ref b9), (1, .ref (a 0)), (2, .ref (b 0)), (3, .ref o9), (4, .ref o8), (5, .int (nI (4 * i)))]) hx hb dL_law_630 hl (by decide) rfl (fun ls hl => ?_)
    refine lv_aload_n hx hb dL_law_632 rfl (lv_at hl 3 rfl) ?_
    refine lv_aload_n hx hb dL_law_633 rfl (lv_at hl 1 rfl) ?_
    refine lv_iload hx hb dL_law_634 (lv_at hl 6 rfl) ?_
    refine lv_iconst (v := nI 1) hx hb dL_law_636 (by decide) ?_
    refine lv_iadd hx hb dL_law_637 ?_
    refine xk_i (y := nI (4 * i + 1)) (nI_add _ _) ?_
    refine va_sld hx hb (X_drawn hX) hbl hbA hS (i := nI (4 * i + 1)) (vp_in_nI (by omega) (by omega)) dL_law_638 ?_
    refine xk_i (y := x1) hx1.symm ?_
    refine lv_aload_n hx hb dL_law_639 rfl (lv_at hl 1 rfl) ?_
    refine lv_iload hx hb dL_law_640 (lv_at hl 6 rfl) ?_
    refine lv_iconst (v := nI 2) hx hb dL_law_642 (by decide) ?_
    refine lv_iadd hx hb dL_law_643 ?_
    refine xk_i (y := nI (4 * i + 2)) (nI_add _ _) ?_
    refine va_sld hx hb (X_drawn hX) hbl hbA hS (i := nI (4 * i + 2)) (vp_in_nI (by omega) (by omega)) dL_law_644 ?_
    refine xk_i (y := x2) hx2.symm ?_
    have hPc : va_P D vwCl (MW b cI cZ cD mth sh mst ts mbi mpr mba (nI t) (nI n) it tu lk mus mud mfs mfb mbo mso mpc mne) H := hP.sub [17, 18, 19, 20, 21, 22, 23, 24, 25, 26, 27, 28, 29, 30, 31, 32] rfl
    have hDc : va_D (fun q => s.heap.size ≤ q) (MW b cI cZ cD mth sh mst ts mbi mpr mba (nI t) (nI n) it tu lk mus mud mfs mfb mbo mso mpc mne) := hD.sub [17, 18, 19, 20, 21, 22, 23, 24, 25, 26, 27, 28, 29, 30, 31, 32] (by decide) rfl
    have hFc := va_free (wc := MW b cI cZ cD mth sh mst ts mbi mpr mba (nI t) (nI n) it tu lk mus mud mfs mfb mbo mso mpc mne) hD hS hA [17, 18, 19, 20, 21, 22, 23, 24, 25, 26, 27, 28, 29, 30, 31, 32] rfl
    refine va_calld (va_runV (As := [.int x1, .int x2]) (rest := []) ⟨hx, hb, hml, xk_od hown, dr_words hts _⟩ (mX2_useX l D cI cZ cD b _ mth sh mst ts mbi mpr mba (nI t) it tu lk mus mud mfs mfb mbo mso mpc mne n hn x1 x2 hg) (cwV 2 (dr_words hts _) gL_law_X2_use rfl rfl rfl (by decide +kernel) ⟨Nat.le_of_ble_eq_true rfl, Nat.le_of_ble_eq_true rfl⟩) ⟨xk_blind, va_recv (yk_Kd hK) hP (ci := 2) (q0 := 17) rfl rfl, xk_pre hPc ((yk_Kd hK).sub [0, 1, 2] rfl) hDc⟩ rfl rfl hl.1 rfl (lv_room (Nat.le_of_ble_eq_true rfl)) dL_law_645 ⟨(by show _ ≤ 1065; omega), (by show _ ≤ 12181; omega)⟩) hS (fun q _ h => hFc q h) hFc (fun r2 u t9 H locs ht hvm hw hB hz1 hk1 hS => ?_)
    obtain ⟨hP1, -, hD1⟩ := hB
    rw [ht] at hP1
    obtain ⟨hP, hD⟩ := va_join (wr := XW a cI cZ cD sh sw ts bi it tu ne pr so lo (nI t) (nI n) lp lz lu lk ld lf lb lw ++ [(o9, .inl (cJ, 1, .inr (.inl fo))), (o8, .inl (cD, 1, .inr (.inr (.inr (.inl fd)))))]) (w1 := MW b cI cZ cD u sh mst ts mbi mpr mba (nI t) (nI n) it tu lk mus mud mfs mfb mbo mso mpc mne) hP hD [17, 18, 19, 20, 21, 22, 23, 24, 25, 26, 27, 28, 29, 30, 31, 32] [0, 1, 2, 3, 4, 5, 6, 7, 8, 9, 10, 11, 12, 13, 14, 15, 16, 33, 34] rfl rfl (by decide) (by decide) hk1 hFc hP1 hD1
    have hP : va_P D vwCl (WL o9 o8 cJ a b cI cZ cD sh sw ts bi it tu ne pr so lo (nI t) (nI n) lp lz lu lk ld lf lb lw u sh mst ts mbi mpr mba (nI t) (nI n) it tu lk mus mud mfs mfb mbo mso mpc mne fo fd) H := hP.sub [0, 1, 2, 3, 4, 5, 6, 7, 8, 9, 10, 11, 12, 13, 14, 15, 16, 19, 20, 21, 22, 23, 24, 25, 26, 27, 28, 29, 30, 31, 32, 33, 34, 17, 18] rfl
    have hD : va_D (fun q => s.heap.size ≤ q) (WL o9 o8 cJ a b cI cZ cD sh sw ts bi it tu ne pr so lo (nI t) (nI n) lp lz lu lk ld lf lb lw u sh mst ts mbi mpr mba (nI t) (nI n) it tu lk mus mud mfs mfb mbo mso mpc mne fo fd) := hD.sub [0, 1, 2, 3, 4, 5, 6, 7, 8, 9, 10, 11, 12, 13, 14, 15, 16, 19, 20, 21, 22, 23, 24, 25, 26, 27, 28, 29, 30, 31, 32, 33, 34, 17, 18] (by decide) rfl
    refine lv_dstore (lv' := [(7, .double r2), (6, .int r), (0, .ref b9), (1, .ref (a 0)), (2, .ref (b 0)), (3, .ref o9), (4, .ref o8), (5, .int (nI (4 * i)))]) hx hb dL_law_648 hl (by decide) rfl (fun ls hl => ?_)
    have hur : u = r ∧ ¬ r = 0 := two_a hwr hw
    refine lv_aload_n hx hb dL_law_650 rfl (lv_at hl 4 rfl) ?_
    have hPc : va_P D vwCl (MW b cI cZ cD u sh mst ts mbi mpr mba (nI t) (nI n) it tu lk mus mud mfs mfb mbo mso mpc mne) H := hP.sub [17, 18, 19, 20, 21, 22, 23, 24, 25, 26, 27, 28, 29, 30, 31, 32] rfl
    have hDc : va_D (fun q => s.heap.size ≤ q) (MW b cI cZ cD u sh mst ts mbi mpr mba (nI t) (nI n) it tu lk mus mud mfs mfb mbo mso mpc mne) := hD.sub [17, 18, 19, 20, 21, 22, 23, 24, 25, 26, 27, 28, 29, 30, 31, 32] (by decide) rfl
    have hFc := va_free (wc := MW b cI cZ cD u sh mst ts mbi mpr mba (nI t) (nI n) it tu lk mus mud mfs mfb mbo mso mpc mne) hD hS hA [17, 18, 19, 20, 21, 22, 23, 24, 25, 26, 27, 28, 29, 30, 31, 32] rfl
    refine va_calli (va_runV (As := []) (rest := []) ⟨hx, hb, hml, xk_od hown, dr_words hts _⟩ (mX2_thrown l D cI cZ cD b _ u sh mst ts mbi mpr mba (nI t) (nI n) it tu lk mus mud mfs mfb mbo mso mpc mne ) (cwV 0 (dr_words hts _) gL_law_X2_thrown rfl rfl rfl (by decide +kernel) ⟨Nat.le_of_ble_eq_true rfl, Nat.le_of_ble_eq_true rfl⟩) ⟨xk_blind, va_recv (yk_Kd hK) hP (ci := 2) (q0 := 17) rfl rfl, xk_pre hPc ((yk_Kd hK).sub [0, 1, 2] rfl) hDc⟩ rfl rfl hl.1 rfl (lv_room (Nat.le_of_ble_eq_true rfl)) dL_law_651 ⟨(by show _ ≤ 1065; omega), (by show _ ≤ 12181; omega)⟩) hS (fun q _ h => hFc q h) hFc (fun r8 u8 t9 H locs ht hvm hw hB hz1 hk1 hS => ?_)
    obtain ⟨hP1, -, hD1⟩ := hB
    rw [ht] at hP1
    obtain ⟨hP, hD⟩ := va_join (wr := XW a cI cZ cD sh sw ts bi it tu ne pr so lo (nI t) (nI n) lp lz lu lk ld lf lb lw ++ [(o9, .inl (cJ, 1, .inr (.inl fo))), (o8, .inl (cD, 1, .inr (.inr (.inr (.inl fd)))))]) (w1 := MW b cI cZ cD u sh mst ts mbi mpr mba (nI t) (nI n) it tu lk mus mud mfs mfb mbo mso mpc mne) hP hD [17, 18, 19, 20, 21, 22, 23, 24, 25, 26, 27, 28, 29, 30, 31, 32] [0, 1, 2, 3, 4, 5, 6, 7, 8, 9, 10, 11, 12, 13, 14, 15, 16, 33, 34] rfl rfl (by decide) (by decide) hk1 hFc hP1 hD1
    have hP : va_P D vwCl (WL o9 o8 cJ a b cI cZ cD sh sw ts bi it tu ne pr so lo (nI t) (nI n) lp lz lu lk ld lf lb lw u sh mst ts mbi mpr mba (nI t) (nI n) it tu lk mus mud mfs mfb mbo mso mpc mne fo fd) H := hP.sub [0, 1, 2, 3, 4, 5, 6, 7, 8, 9, 10, 11, 12, 13, 14, 15, 16, 19, 20, 21, 22, 23, 24, 25, 26, 27, 28, 29, 30, 31, 32, 33, 34, 17, 18] rfl
    have hD : va_D (fun q => s.heap.size ≤ q) (WL o9 o8 cJ a b cI cZ cD sh sw ts bi it tu ne pr so lo (nI t) (nI n) lp lz lu lk ld lf lb lw u sh mst ts mbi mpr mba (nI t) (nI n) it tu lk mus mud mfs mfb mbo mso mpc mne fo fd) := hD.sub [0, 1, 2, 3, 4, 5, 6, 7, 8, 9, 10, 11, 12, 13, 14, 15, 16, 19, 20, 21, 22, 23, 24, 25, 26, 27, 28, 29, 30, 31, 32, 33, 34, 17, 18] (by decide) rfl
    refine xk_i (y := u) hw ?_
    refine lv_iload hx hb dL_law_654 (lv_at hl 1 rfl) ?_
    refine lv_icmp_eq (tgt := 661) hx hb dL_law_656 (by decide) (fun c => ?_) (fun c => absurd hur.1 c)
    refine lv_iload hx hb dL_law_661 (lv_at hl 1 rfl) ?_
    refine lv_if_ne (tgt := 698) hx hb dL_law_663 (by decide) (fun c => ?_) (fun c => absurd c hur.2)
    refine lv_goto (tgt := 1232) hx hb dL_law_698 (by decide) ?_
    refine lv_iinc (v := nI (4 * (i + 1))) (lv' := [(5, .int (nI (4 * (i + 1)))), (7, .double r2), (6, .int r), (0, .ref b9), (1, .ref (a 0)), (2, .ref (b 0)), (3, .ref o9), (4, .ref o8)]) hx hb dL_law_1232 hl (k := 7) rfl (iinc4 i) (by decide) rfl (fun ls hl => ?_)
    refine lv_goto (tgt := 28) hx hb dL_law_1235 (by decide) ?_
    refine W.widen (k := 35 + (i + 1)) (n := 3953 + 6 * (i + 1)) (by omega) (by omega) ?_
    exact next _ _ _ _ ⟨n, t, sh, sw, ts, bi, it, tu, ne, pr, so, lo, lp, lz, lu, lk, ld, lf, lb, lw, u, mst, mbi, mpr, mba, mus, mud, mfs, mfb, mbo, mso, mpc, mne, fo, fd, ⟨hn, ht5, hsm, hsw, hit, hbi, hpr, hso, hlu, hld, hlf, hlz9, hlb, hlw, hlz, hlp⟩, hP, hD, hS, hdl, lv_sub hl [3, 4, 5, 6, 7, 0] rfl⟩
set_option maxHeartbeats 4000000 in
set_option maxRecDepth 100000 in
theorem ls_8 {p : Program} {l : Launch} {e : Env} {s : State} {m : MethodId} {below : List Frame} {meth : Method} {c : Code} {b9 L : Nat} {xs : Nat → Int32} {D : va_G} {cI cZ cD cJ : ClassId} (C : LC l p s m meth c b9 L xs D cI cZ cD cJ) {a b : Nat → Nat} {o9 o8 i : Nat} (hi4 : 4 * i + 4 ≤ L) {H : Heap} {locs : List Loc} {ls : Array Slot} {d : Drawn} (hI : LInv s D cI cZ cD cJ a b b9 o9 o8 i H locs ls d) (next : ∀ (H' : Heap) (locs' : List Loc) (ls' : Array Slot) (d' : Drawn), LInv s D cI cZ cD cJ a b b9 o9 o8 (i + 1) H' locs' ls' d' → W p l e room_1 (s.setDrawn d') m #[Value.ref b9] below meth c H' locs' (35 + (i + 1)) (3953 + 6 * (i + 1)) (lw_Z below #[Value.ref b9] s) (F0 m 28 ls' [])) : W p l e room_1 (s.setDrawn d) m #[Value.ref b9] below meth c H locs (35 + i) (3953 + 6 * i) (lw_Z below #[Value.ref b9] s) (F0 m 701 ls []) := by
  obtain ⟨hst, hL, C0, hE, hN, hK⟩ := C
  obtain ⟨hx, hb, hr, hml, hown, hts0, hX, hbl, hlocks, hgv⟩ := C0
  have hts : ∀ w ∈ wsL_law, w.before #[Value.ref b9] s = true := fun w h => hts0 w (wsL_law_in w h)
  obtain ⟨n, t, sh, sw, ts, bi, it, tu, ne, pr, so, lo, lp, lz, lu, lk, ld, lf, lb, lw, mth, mst, mbi, mpr, mba, mus, mud, mfs, mfb, mbo, mso, mpc, mne, fo, fd, ⟨hn, ht5, hsm, hsw, hit, hbi, hpr, hso, hlu, hld, hlf, hlz9, hlb, hlw, hlz, hlp⟩, hP, hD, hS, hdl, hl⟩ := hI
  have hA : ∀ q : Nat, s.heap.size ≤ q → (fun q => s.heap.size ≤ q) q := fun q h => h
  have hbA : ¬ (fun q => s.heap.size ≤ q) b9 := Nat.not_le.mpr hbl
  obtain ⟨x1, hx1⟩ : ∃ x, x = xs (nI (4 * i + 1)).toNatClampNeg := ⟨_, rfl⟩
  obtain ⟨x2, hx2⟩ : ∃ x, x = xs (nI (4 * i + 2)).toNatClampNeg := ⟨_, rfl⟩
  by_cases hg : inR x1 0 4 ∧ isQ n x2
  · skip
    obtain ⟨g1, g2⟩ := hg
    obtain ⟨o, ho4, rfl⟩ := inR_nI (n := 4) (by decide) g1
    have ho : o < 5 := by omega
    obtain ⟨q, hq, rfl⟩ := isQ_nI (by omega) g2
    refine lv_aload_n hx hb dL_law_701 rfl (lv_at hl 1 rfl) ?_
    refine lv_aload_n hx hb dL_law_702 rfl (lv_at hl 0 rfl) ?_
    refine lv_iload hx hb dL_law_703 (lv_at hl 5 rfl) ?_
    refine lv_iconst (v := nI 1) hx hb dL_law_705 (by decide) ?_
    refine lv_iadd hx hb dL_law_706 ?_
    refine xk_i (y := nI (4 * i + 1)) (nI_add _ _) ?_
    refine va_sld hx hb (X_drawn hX) hbl hbA hS (i := nI (4 * i + 1)) (vp_in_nI (by omega) (by omega)) dL_law_707 ?_
    refine xk_i (y := nI o) hx1.symm ?_
    refine lv_aload_n hx hb dL_law_708 rfl (lv_at hl 0 rfl) ?_
    refine lv_iload hx hb dL_law_709 (lv_at hl 5 rfl) ?_
    refine lv_iconst (v := nI 2) hx hb dL_law_711 (by decide) ?_
    refine lv_iadd hx hb dL_law_712 ?_
    refine xk_i (y := nI (4 * i + 2)) (nI_add _ _) ?_
    refine va_sld hx hb (X_drawn hX) hbl hbA hS (i := nI (4 * i + 2)) (vp_in_nI (by omega) (by omega)) dL_law_713 ?_
    refine xk_i (y := nI q) hx2.symm ?_
    refine lv_aload hx hb dL_law_714 (lv_at hl 4 rfl) ?_
    have hPc : va_P D vwCl (XWD o8 a cI cZ cD sh sw ts bi it tu ne pr so lo (nI t) (nI n) lp lz lu lk ld lf lb lw fd) H := hP.sub [0, 1, 2, 3, 4, 5, 6, 7, 8, 9, 10, 11, 12, 13, 14, 15, 16, 34] rfl
    have hDc : va_D (fun q => s.heap.size ≤ q) (XWD o8 a cI cZ cD sh sw ts bi it tu ne pr so lo (nI t) (nI n) lp lz lu lk ld lf lb lw fd) := hD.sub [0, 1, 2, 3, 4, 5, 6, 7, 8, 9, 10, 11, 12, 13, 14, 15, 16, 34] (by decide) rfl
    have hFc := va_free (wc := XWD o8 a cI cZ cD sh sw ts bi it tu ne pr so lo (nI t) (nI n) lp lz lu lk ld lf lb lw fd) hD hS hA [0, 1, 2, 3, 4, 5, 6, 7, 8, 9, 10, 11, 12, 13, 14, 15, 16, 34] rfl
    refine va_calli (vx_runSW (As := [.ref (a 0), .int (nI o), .int (nI q), .ref o8]) (rest := []) ⟨hx, hb, hml, xk_od hown, dr_words hts _⟩ (mL_fromSunV l D cI cZ cD cJ a o8 _ sh sw ts bi it tu ne pr so lo (nI t) lp lz lu lk ld lf lb lw fd n o q hn ho hq) (vx_cwSW 4 (dr_words hts _) gL_law_L_fromSun rfl rfl rfl (by decide +kernel) ⟨Nat.le_of_ble_eq_true rfl, Nat.le_of_ble_eq_true rfl⟩) ⟨yk_blind, yk_pre hPc (yk_Kd hK) hDc⟩ rfl rfl hl.1 rfl (lv_room (Nat.le_of_ble_eq_true rfl)) dL_law_716 ⟨(by show _ ≤ 1065; omega), (by show _ ≤ 12181; omega)⟩) hS (fun q _ h => hFc q h) hFc (fun r u t9 H locs ht hvm hw hB hz1 hk1 hS => ?_)
    obtain ⟨z, fd1⟩ := u
    obtain ⟨rfl, hv1, hv2⟩ := hw
    dsimp only at hv1 hv2
    obtain ⟨hP1, -, hD1⟩ := hB
    rw [ht] at hP1
    obtain ⟨hP, hD⟩ := va_join (wr := MW b cI cZ cD mth sh mst ts mbi mpr mba (nI t) (nI n) it tu lk mus mud mfs mfb mbo mso mpc mne ++ [(o9, .inl (cJ, 1, .inr (.inl fo)))]) (w1 := XWD o8 a cI cZ cD sh sw ts bi it tu ne pr so lo (nI t) (nI n) lp lz lu lk ld lf lb lw fd1) hP hD [0, 1, 2, 3, 4, 5, 6, 7, 8, 9, 10, 11, 12, 13, 14, 15, 16, 34] [17, 18, 19, 20, 21, 22, 23, 24, 25, 26, 27, 28, 29, 30, 31, 32, 33] rfl rfl (by decide) (by decide) hk1 hFc hP1 hD1
    have hP : va_P D vwCl (WL o9 o8 cJ a b cI cZ cD sh sw ts bi it tu ne pr so lo (nI t) (nI n) lp lz lu lk ld lf lb lw mth sh mst ts mbi mpr mba (nI t) (nI n) it tu lk mus mud mfs mfb mbo mso mpc mne fo fd1) H := hP.sub [17, 18, 19, 20, 21, 22, 23, 24, 25, 26, 27, 28, 29, 30, 31, 32, 33, 0, 1, 2, 3, 4, 5, 6, 7, 8, 9, 10, 11, 12, 13, 14, 15, 16, 34] rfl
    have hD : va_D (fun q => s.heap.size ≤ q) (WL o9 o8 cJ a b cI cZ cD sh sw ts bi it tu ne pr so lo (nI t) (nI n) lp lz lu lk ld lf lb lw mth sh mst ts mbi mpr mba (nI t) (nI n) it tu lk mus mud mfs mfb mbo mso mpc mne fo fd1) := hD.sub [17, 18, 19, 20, 21, 22, 23, 24, 25, 26, 27, 28, 29, 30, 31, 32, 33, 0, 1, 2, 3, 4, 5, 6, 7, 8, 9, 10, 11, 12, 13, 14, 15, 16, 34] (by decide) rfl
    refine lv_istore (lv' := [(6, .int 0), (0, .ref b9), (1, .ref (a 0)), (2, .ref (b 0)), (3, .ref o9), (4, .ref o8), (5, .int (nI (4 * i)))]) hx hb dL_law_719 hl (by decide) rfl (fun ls hl => ?_)
    refine lv_aload_n hx hb dL_law_721 rfl (lv_at hl 3 rfl) ?_
    refine lv_aload_n hx hb dL_law_722 rfl (lv_at hl 1 rfl) ?_
    refine lv_iload hx hb dL_law_723 (lv_at hl 6 rfl) ?_
    refine lv_iconst (v := nI 1) hx hb dL_law_725 (by decide) ?_
    refine lv_iadd hx hb dL_law_726 ?_
    refine xk_i (y := nI (4 * i + 1)) (nI_add _ _) ?_
    refine va_sld hx hb (X_drawn hX) hbl hbA hS (i := nI (4 * i + 1)) (vp_in_nI (by omega) (by omega)) dL_law_727 ?_
    refine xk_i (y := nI o) hx1.symm ?_
    refine lv_aload_n hx hb dL_law_728 rfl (lv_at hl 1 rfl) ?_
    refine lv_iload hx hb dL_law_729 (lv_at hl 6 rfl) ?_
    refine lv_iconst (v := nI 2) hx hb dL_law_731 (by decide) ?_
    refine lv_iadd hx hb dL_law_732 ?_
    refine xk_i (y := nI (4 * i + 2)) (nI_add _ _) ?_
    refine va_sld hx hb (X_drawn hX) hbl hbA hS (i := nI (4 * i + 2)) (vp_in_nI (by omega) (by omega)) dL_law_733 ?_
    refine xk_i (y := nI q) hx2.symm ?_
    have hPc : va_P D vwCl (MW b cI cZ cD mth sh mst ts mbi mpr mba (nI t) (nI n) it tu lk mus mud mfs mfb mbo mso mpc mne) H := hP.sub [17, 18, 19, 20, 21, 22, 23, 24, 25, 26, 27, 28, 29, 30, 31, 32] rfl
    have hDc : va_D (fun q => s.heap.size ≤ q) (MW b cI cZ cD mth sh mst ts mbi mpr mba (nI t) (nI n) it tu lk mus mud mfs mfb mbo mso mpc mne) := hD.sub [17, 18, 19, 20, 21, 22, 23, 24, 25, 26, 27, 28, 29, 30, 31, 32] (by decide) rfl
    have hFc := va_free (wc := MW b cI cZ cD mth sh mst ts mbi mpr mba (nI t) (nI n) it tu lk mus mud mfs mfb mbo mso mpc mne) hD hS hA [17, 18, 19, 20, 21, 22, 23, 24, 25, 26, 27, 28, 29, 30, 31, 32] rfl
    refine va_calld (va_runV (As := [.int (nI o), .int (nI q)]) (rest := []) ⟨hx, hb, hml, xk_od hown, dr_words hts _⟩ (mX2_fromSunV l D cI cZ cD b _ mth sh mst ts mbi mpr mba (nI t) it tu lk mus mud mfs mfb mbo mso mpc mne n o q hn ho hq) (cwV 2 (dr_words hts _) gL_law_X2_fromSun rfl rfl rfl (by decide +kernel) ⟨Nat.le_of_ble_eq_true rfl, Nat.le_of_ble_eq_true rfl⟩) ⟨xk_blind, va_recv (yk_Kd hK) hP (ci := 2) (q0 := 17) rfl rfl, xk_pre hPc ((yk_Kd hK).sub [0, 1, 2] rfl) hDc⟩ rfl rfl hl.1 rfl (lv_room (Nat.le_of_ble_eq_true rfl)) dL_law_734 ⟨(by show _ ≤ 1065; omega), (by show _ ≤ 12181; omega)⟩) hS (fun q _ h => hFc q h) hFc (fun r2 u t9 H locs ht hvm hw hB hz1 hk1 hS => ?_)
    obtain ⟨hP1, -, hD1⟩ := hB
    rw [ht] at hP1
    obtain ⟨hP, hD⟩ := va_join (wr := XW a cI cZ cD sh sw ts bi it tu ne pr so lo (nI t) (nI n) lp lz lu lk ld lf lb lw ++ [(o9, .inl (cJ, 1, .inr (.inl fo))), (o8, .inl (cD, 1, .inr (.inr (.inr (.inl fd1)))))]) (w1 := MW b cI cZ cD 0 sh mst ts mbi mpr mba (nI t) (nI n) it tu lk mus mud mfs mfb mbo mso mpc mne) hP hD [17, 18, 19, 20, 21, 22, 23, 24, 25, 26, 27, 28, 29, 30, 31, 32] [0, 1, 2, 3, 4, 5, 6, 7, 8, 9, 10, 11, 12, 13, 14, 15, 16, 33, 34] rfl rfl (by decide) (by decide) hk1 hFc hP1 hD1
    have hP : va_P D vwCl (WL o9 o8 cJ a b cI cZ cD sh sw ts bi it tu ne pr so lo (nI t) (nI n) lp lz lu lk ld lf lb lw 0 sh mst ts mbi mpr mba (nI t) (nI n) it tu lk mus mud mfs mfb mbo mso mpc mne fo fd1) H := hP.sub [0, 1, 2, 3, 4, 5, 6, 7, 8, 9, 10, 11, 12, 13, 14, 15, 16, 19, 20, 21, 22, 23, 24, 25, 26, 27, 28, 29, 30, 31, 32, 33, 34, 17, 18] rfl
    have hD : va_D (fun q => s.heap.size ≤ q) (WL o9 o8 cJ a b cI cZ cD sh sw ts bi it tu ne pr so lo (nI t) (nI n) lp lz lu lk ld lf lb lw 0 sh mst ts mbi mpr mba (nI t) (nI n) it tu lk mus mud mfs mfb mbo mso mpc mne fo fd1) := hD.sub [0, 1, 2, 3, 4, 5, 6, 7, 8, 9, 10, 11, 12, 13, 14, 15, 16, 19, 20, 21, 22, 23, 24, 25, 26, 27, 28, 29, 30, 31, 32, 33, 34, 17, 18] (by decide) rfl
    have hnz : nz (dt (fd1 0)) (dt r2) := by rw [hv1, hw]; exact hlf _
    refine lv_dstore (lv' := [(7, .double r2), (6, .int 0), (0, .ref b9), (1, .ref (a 0)), (2, .ref (b 0)), (3, .ref o9), (4, .ref o8), (5, .int (nI (4 * i)))]) hx hb dL_law_737 hl (by decide) rfl (fun ls hl => ?_)
    refine lv_aload_n hx hb dL_law_739 rfl (lv_at hl 4 rfl) ?_
    have hPc : va_P D vwCl (MW b cI cZ cD 0 sh mst ts mbi mpr mba (nI t) (nI n) it tu lk mus mud mfs mfb mbo mso mpc mne) H := hP.sub [17, 18, 19, 20, 21, 22, 23, 24, 25, 26, 27, 28, 29, 30, 31, 32] rfl
    have hDc : va_D (fun q => s.heap.size ≤ q) (MW b cI cZ cD 0 sh mst ts mbi mpr mba (nI t) (nI n) it tu lk mus mud mfs mfb mbo mso mpc mne) := hD.sub [17, 18, 19, 20, 21, 22, 23, 24, 25, 26, 27, 28, 29, 30, 31, 32] (by decide) rfl
    have hFc := va_free (wc := MW b cI cZ cD 0 sh mst ts mbi mpr mba (nI t) (nI n) it tu lk mus mud mfs mfb mbo mso mpc mne) hD hS hA [17, 18, 19, 20, 21, 22, 23, 24, 25, 26, 27, 28, 29, 30, 31, 32] rfl
    refine va_calli (va_runV (As := []) (rest := []) ⟨hx, hb, hml, xk_od hown, dr_words hts _⟩ (mX2_thrown l D cI cZ cD b _ 0 sh mst ts mbi mpr mba (nI t) (nI n) it tu lk mus mud mfs mfb mbo mso mpc mne ) (cwV 0 (dr_words hts _) gL_law_X2_thrown rfl rfl rfl (by decide +kernel) ⟨Nat.le_of_ble_eq_true rfl, Nat.le_of_ble_eq_true rfl⟩) ⟨xk_blind, va_recv (yk_Kd hK) hP (ci := 2) (q0 := 17) rfl rfl, xk_pre hPc ((yk_Kd hK).sub [0, 1, 2] rfl) hDc⟩ rfl rfl hl.1 rfl (lv_room (Nat.le_of_ble_eq_true rfl)) dL_law_740 ⟨(by show _ ≤ 1065; omega), (by show _ ≤ 12181; omega)⟩) hS (fun q _ h => hFc q h) hFc (fun r8 u8 t9 H locs ht hvm hw hB hz1 hk1 hS => ?_)
    obtain ⟨hP1, -, hD1⟩ := hB
    rw [ht] at hP1
    obtain ⟨hP, hD⟩ := va_join (wr := XW a cI cZ cD sh sw ts bi it tu ne pr so lo (nI t) (nI n) lp lz lu lk ld lf lb lw ++ [(o9, .inl (cJ, 1, .inr (.inl fo))), (o8, .inl (cD, 1, .inr (.inr (.inr (.inl fd1)))))]) (w1 := MW b cI cZ cD 0 sh mst ts mbi mpr mba (nI t) (nI n) it tu lk mus mud mfs mfb mbo mso mpc mne) hP hD [17, 18, 19, 20, 21, 22, 23, 24, 25, 26, 27, 28, 29, 30, 31, 32] [0, 1, 2, 3, 4, 5, 6, 7, 8, 9, 10, 11, 12, 13, 14, 15, 16, 33, 34] rfl rfl (by decide) (by decide) hk1 hFc hP1 hD1
    have hP : va_P D vwCl (WL o9 o8 cJ a b cI cZ cD sh sw ts bi it tu ne pr so lo (nI t) (nI n) lp lz lu lk ld lf lb lw 0 sh mst ts mbi mpr mba (nI t) (nI n) it tu lk mus mud mfs mfb mbo mso mpc mne fo fd1) H := hP.sub [0, 1, 2, 3, 4, 5, 6, 7, 8, 9, 10, 11, 12, 13, 14, 15, 16, 19, 20, 21, 22, 23, 24, 25, 26, 27, 28, 29, 30, 31, 32, 33, 34, 17, 18] rfl
    have hD : va_D (fun q => s.heap.size ≤ q) (WL o9 o8 cJ a b cI cZ cD sh sw ts bi it tu ne pr so lo (nI t) (nI n) lp lz lu lk ld lf lb lw 0 sh mst ts mbi mpr mba (nI t) (nI n) it tu lk mus mud mfs mfb mbo mso mpc mne fo fd1) := hD.sub [0, 1, 2, 3, 4, 5, 6, 7, 8, 9, 10, 11, 12, 13, 14, 15, 16, 19, 20, 21, 22, 23, 24, 25, 26, 27, 28, 29, 30, 31, 32, 33, 34, 17, 18] (by decide) rfl
    refine xk_i (y := 0) hw ?_
    refine lv_iload hx hb dL_law_743 (lv_at hl 1 rfl) ?_
    refine lv_icmp_eq (tgt := 750) hx hb dL_law_745 (by decide) (fun c => ?_) (fun c => absurd rfl c)
    refine lv_iload hx hb dL_law_750 (lv_at hl 1 rfl) ?_
    refine lv_if_ne (tgt := 787) hx hb dL_law_752 (by decide) (fun c => absurd rfl c) (fun c => ?_)
    refine lv_aload hx hb dL_law_755 (lv_at hl 6 rfl) ?_
    refine lv_iconst (v := nI 0) hx hb dL_law_757 (by decide) ?_
    refine xk_dald hx hb (yk_Kd hK) hP 34 2 rfl rfl (o := 0) (by decide) (by decide) dL_law_758 ?_
    refine lv_dload hx hb dL_law_759 (lv_at hl 0 rfl) ?_
    refine lv_dcmp hx hb dL_law_761 ?_
    refine lv_if_eq (tgt := 787) hx hb dL_law_762 (by decide) (fun c => ?_) (fun c => ?_)
    · skip
      refine lv_goto (tgt := 1232) hx hb dL_law_787 (by decide) ?_
      refine lv_iinc (v := nI (4 * (i + 1))) (lv' := [(5, .int (nI (4 * (i + 1)))), (7, .double r2), (6, .int 0), (0, .ref b9), (1, .ref (a 0)), (2, .ref (b 0)), (3, .ref o9), (4, .ref o8)]) hx hb dL_law_1232 hl (k := 7) rfl (iinc4 i) (by decide) rfl (fun ls hl => ?_)
      refine lv_goto (tgt := 28) hx hb dL_law_1235 (by decide) ?_
      refine W.widen (k := 35 + (i + 1)) (n := 3953 + 6 * (i + 1)) (by omega) (by omega) ?_
      exact next _ _ _ _ ⟨n, t, sh, sw, ts, bi, it, tu, ne, pr, so, lo, lp, lz, lu, lk, ld, lf, lb, lw, 0, mst, mbi, mpr, mba, mus, mud, mfs, mfb, mbo, mso, mpc, mne, fo, fd1, ⟨hn, ht5, hsm, hsw, hit, hbi, hpr, hso, hlu, hld, hlf, hlz9, hlb, hlw, hlz, hlp⟩, hP, hD, hS, hdl, lv_sub hl [3, 4, 5, 6, 7, 0] rfl⟩
    · skip
      have hnn := (dCmp_nz hnz).resolve_left (fun z => c ((cv_l_eq _).mpr z))
      refine lv_aload hx hb dL_law_765 (lv_at hl 6 rfl) ?_
      refine lv_iconst (v := nI 0) hx hb dL_law_767 (by decide) ?_
      refine xk_dald hx hb (yk_Kd hK) hP 34 2 rfl rfl (o := 0) (by decide) (by decide) dL_law_768 ?_
      refine lv_aload hx hb dL_law_769 (lv_at hl 6 rfl) ?_
      refine lv_iconst (v := nI 0) hx hb dL_law_771 (by decide) ?_
      refine xk_dald hx hb (yk_Kd hK) hP 34 2 rfl rfl (o := 0) (by decide) (by decide) dL_law_772 ?_
      refine lv_dcmp hx hb dL_law_773 ?_
      refine lv_if_eq (tgt := 785) hx hb dL_law_774 (by decide) (fun c => absurd c (nan_ne hnn.1)) (fun c => ?_)
      refine lv_dload hx hb dL_law_777 (lv_at hl 0 rfl) ?_
      refine lv_dload hx hb dL_law_779 (lv_at hl 0 rfl) ?_
      refine lv_dcmp hx hb dL_law_781 ?_
      refine lv_if_ne (tgt := 787) hx hb dL_law_782 (by decide) (fun c => ?_) (fun c => absurd c (nan_ne hnn.2))
      refine lv_goto (tgt := 1232) hx hb dL_law_787 (by decide) ?_
      refine lv_iinc (v := nI (4 * (i + 1))) (lv' := [(5, .int (nI (4 * (i + 1)))), (7, .double r2), (6, .int 0), (0, .ref b9), (1, .ref (a 0)), (2, .ref (b 0)), (3, .ref o9), (4, .ref o8)]) hx hb dL_law_1232 hl (k := 7) rfl (iinc4 i) (by decide) rfl (fun ls hl => ?_)
      refine lv_goto (tgt := 28) hx hb dL_law_1235 (by decide) ?_
      refine W.widen (k := 35 + (i + 1)) (n := 3953 + 6 * (i + 1)) (by omega) (by omega) ?_
      exact next _ _ _ _ ⟨n, t, sh, sw, ts, bi, it, tu, ne, pr, so, lo, lp, lz, lu, lk, ld, lf, lb, lw, 0, mst, mbi, mpr, mba, mus, mud, mfs, mfb, mbo, mso, mpc, mne, fo, fd1, ⟨hn, ht5, hsm, hsw, hit, hbi, hpr, hso, hlu, hld, hlf, hlz9, hlb, hlw, hlz, hlp⟩, hP, hD, hS, hdl, lv_sub hl [3, 4, 5, 6, 7, 0] rfl⟩
  · skip
    refine lv_aload_n hx hb dL_law_701 rfl (lv_at hl 1 rfl) ?_
    refine lv_aload_n hx hb dL_law_702 rfl (lv_at hl 0 rfl) ?_
    refine lv_iload hx hb dL_law_703 (lv_at hl 5 rfl) ?_
    refine lv_iconst (v := nI 1) hx hb dL_law_705 (by decide) ?_
    refine lv_iadd hx hb dL_law_706 ?_
    refine xk_i (y := nI (4 * i + 1)) (nI_add _ _) ?_
    refine va_sld hx hb (X_drawn hX) hbl hbA hS (i := nI (4 * i + 1)) (vp_in_nI (by omega) (by omega)) dL_law_707 ?_
    refine xk_i (y := x1) hx1.symm ?_
    refine lv_aload_n hx hb dL_law_708 rfl (lv_at hl 0 rfl) ?_
    refine lv_iload hx hb dL_law_709 (lv_at hl 5 rfl) ?_
    refine lv_iconst (v := nI 2) hx hb dL_law_711 (by decide) ?_
    refine lv_iadd hx hb dL_law_712 ?_
    refine xk_i (y := nI (4 * i + 2)) (nI_add _ _) ?_
    refine va_sld hx hb (X_drawn hX) hbl hbA hS (i := nI (4 * i + 2)) (vp_in_nI (by omega) (by omega)) dL_law_713 ?_
    refine xk_i (y := x2) hx2.symm ?_
    refine lv_aload hx hb dL_law_714 (lv_at hl 4 rfl) ?_
    have hPx : va_P D vwCl (XW a cI cZ cD sh sw ts bi it tu ne pr so lo (nI t) (nI n) lp lz lu lk ld lf lb lw) H := hP.sub [0, 1, 2, 3, 4, 5, 6, 7, 8, 9, 10, 11, 12, 13, 14, 15, 16] rfl
    have hDx : va_D (fun q => s.heap.size ≤ q) (XW a cI cZ cD sh sw ts bi it tu ne pr so lo (nI t) (nI n) lp lz lu lk ld lf lb lw) := hD.sub [0, 1, 2, 3, 4, 5, 6, 7, 8, 9, 10, 11, 12, 13, 14, 15, 16] (by decide) rfl
    refine va_calli (vx_runSW (As := [.ref (a 0), .int x1, .int x2, .ref o8]) (rest := []) ⟨hx, hb, hml, xk_od hown, dr_words hts _⟩ (mL_fromSunX l hst D cI cZ cD a H sh sw ts bi it tu ne pr so lo (nI t) lp lz lu lk ld lf lb lw o8 n x1 x2 hg) (vx_cwSW 4 (dr_words hts _) gL_law_L_fromSun rfl rfl rfl (by decide +kernel) ⟨Nat.le_of_ble_eq_true rfl, Nat.le_of_ble_eq_true rfl⟩) ⟨zq_blind, zq_pre hPx ((yk_Kd hK).sub [0, 1, 2] rfl) hDx hE.drawn hN.drawn hS hA⟩ rfl rfl hl.1 rfl (lv_room (Nat.le_of_ble_eq_true rfl)) dL_law_716 ⟨(by show _ ≤ 1065; omega), (by show _ ≤ 12181; omega)⟩) hS (fun q h1 h2 => absurd h2 (Nat.not_le.mpr h1)) (fun q h => Nat.le_trans hS.1 h) (fun r u t9 H9 locs ht hvm hwr hB hz1 hk1 hS => ?_)
    have hP : va_P D vwCl (WL o9 o8 cJ a b cI cZ cD sh sw ts bi it tu ne pr so lo (nI t) (nI n) lp lz lu lk ld lf lb lw mth sh mst ts mbi mpr mba (nI t) (nI n) it tu lk mus mud mfs mfb mbo mso mpc mne fo fd) H9 := hP.kept (fun k q hq => hk1 q.1 (hP k q hq).lt (Nat.not_le.mpr (hP k q hq).lt))
    generalize H9 = H at hP hS ⊢
    refine lv_istore (lv' := [(6, .int r), (0, .ref b9), (1, .ref (a 0)), (2, .ref (b 0)), (3, .ref o9), (4, .ref o8), (5, .int (nI (4 * i)))]) hx hb dL_law_719 hl (by decide) rfl (fun ls hl => ?_)
    refine lv_aload_n hx hb dL_law_721 rfl (lv_at hl 3 rfl) ?_
    refine lv_aload_n hx hb dL_law_722 rfl (lv_at hl 1 rfl) ?_
    refine lv_iload hx hb dL_law_723 (lv_at hl 6 rfl) ?_
    refine lv_iconst (v := nI 1) hx hb dL_law_725 (by decide) ?_
    refine lv_iadd hx hb dL_law_726 ?_
    refine xk_i (y := nI (4 * i + 1)) (nI_add _ _) ?_
    refine va_sld hx hb (X_drawn hX) hbl hbA hS (i := nI (4 * i + 1)) (vp_in_nI (by omega) (by omega)) dL_law_727 ?_
    refine xk_i (y := x1) hx1.symm ?_
    refine lv_aload_n hx hb dL_law_728 rfl (lv_at hl 1 rfl) ?_
    refine lv_iload hx hb dL_law_729 (lv_at hl 6 rfl) ?_
    refine lv_iconst (v := nI 2) hx hb dL_law_731 (by decide) ?_
    refine lv_iadd hx hb dL_law_732 ?_
    refine xk_i (y := nI (4 * i + 2)) (nI_add _ _) ?_
    refine va_sld hx hb (X_drawn hX) hbl hbA hS (i := nI (4 * i + 2)) (vp_in_nI (by omega) (by omega)) dL_law_733 ?_
    refine xk_i (y := x2) hx2.symm ?_
    have hPc : va_P D vwCl (MW b cI cZ cD mth sh mst ts mbi mpr mba (nI t) (nI n) it tu lk mus mud mfs mfb mbo mso mpc mne) H := hP.sub [17, 18, 19, 20, 21, 22, 23, 24, 25, 26, 27, 28, 29, 30, 31, 32] rfl
    have hDc : va_D (fun q => s.heap.size ≤ q) (MW b cI cZ cD mth sh mst ts mbi mpr mba (nI t) (nI n) it tu lk mus mud mfs mfb mbo mso mpc mne) := hD.sub [17, 18, 19, 20, 21, 22, 23, 24, 25, 26, 27, 28, 29, 30, 31, 32] (by decide) rfl
    have hFc := va_free (wc := MW b cI cZ cD mth sh mst ts mbi mpr mba (nI t) (nI n) it tu lk mus mud mfs mfb mbo mso mpc mne) hD hS hA [17, 18, 19, 20, 21, 22, 23, 24, 25, 26, 27, 28, 29, 30, 31, 32] rfl
    refine va_calld (va_runV (As := [.int x1, .int x2]) (rest := []) ⟨hx, hb, hml, xk_od hown, dr_words hts _⟩ (mX2_fromSunX l D cI cZ cD b _ mth sh mst ts mbi mpr mba (nI t) it tu lk mus mud mfs mfb mbo mso mpc mne n hn x1 x2 hg) (cwV 2 (dr_words hts _) gL_law_X2_fromSun rfl rfl rfl (by decide +kernel) ⟨Nat.le_of_ble_eq_true rfl, Nat.le_of_ble_eq_true rfl⟩) ⟨xk_blind, va_recv (yk_Kd hK) hP (ci := 2) (q0 := 17) rfl rfl, xk_pre hPc ((yk_Kd hK).sub [0, 1, 2] rfl) hDc⟩ rfl rfl hl.1 rfl (lv_room (Nat.le_of_ble_eq_true rfl)) dL_law_734 ⟨(by show _ ≤ 1065; omega), (by show _ ≤ 12181; omega)⟩) hS (fun q _ h => hFc q h) hFc (fun r2 u t9 H locs ht hvm hw hB hz1 hk1 hS => ?_)
    obtain ⟨hP1, -, hD1⟩ := hB
    rw [ht] at hP1
    obtain ⟨hP, hD⟩ := va_join (wr := XW a cI cZ cD sh sw ts bi it tu ne pr so lo (nI t) (nI n) lp lz lu lk ld lf lb lw ++ [(o9, .inl (cJ, 1, .inr (.inl fo))), (o8, .inl (cD, 1, .inr (.inr (.inr (.inl fd)))))]) (w1 := MW b cI cZ cD u sh mst ts mbi mpr mba (nI t) (nI n) it tu lk mus mud mfs mfb mbo mso mpc mne) hP hD [17, 18, 19, 20, 21, 22, 23, 24, 25, 26, 27, 28, 29, 30, 31, 32] [0, 1, 2, 3, 4, 5, 6, 7, 8, 9, 10, 11, 12, 13, 14, 15, 16, 33, 34] rfl rfl (by decide) (by decide) hk1 hFc hP1 hD1
    have hP : va_P D vwCl (WL o9 o8 cJ a b cI cZ cD sh sw ts bi it tu ne pr so lo (nI t) (nI n) lp lz lu lk ld lf lb lw u sh mst ts mbi mpr mba (nI t) (nI n) it tu lk mus mud mfs mfb mbo mso mpc mne fo fd) H := hP.sub [0, 1, 2, 3, 4, 5, 6, 7, 8, 9, 10, 11, 12, 13, 14, 15, 16, 19, 20, 21, 22, 23, 24, 25, 26, 27, 28, 29, 30, 31, 32, 33, 34, 17, 18] rfl
    have hD : va_D (fun q => s.heap.size ≤ q) (WL o9 o8 cJ a b cI cZ cD sh sw ts bi it tu ne pr so lo (nI t) (nI n) lp lz lu lk ld lf lb lw u sh mst ts mbi mpr mba (nI t) (nI n) it tu lk mus mud mfs mfb mbo mso mpc mne fo fd) := hD.sub [0, 1, 2, 3, 4, 5, 6, 7, 8, 9, 10, 11, 12, 13, 14, 15, 16, 19, 20, 21, 22, 23, 24, 25, 26, 27, 28, 29, 30, 31, 32, 33, 34, 17, 18] (by decide) rfl
    refine lv_dstore (lv' := [(7, .double r2), (6, .int r), (0, .ref b9), (1, .ref (a 0)), (2, .ref (b 0)), (3, .ref o9), (4, .ref o8), (5, .int (nI (4 * i)))]) hx hb dL_law_737 hl (by decide) rfl (fun ls hl => ?_)
    have hur : u = r ∧ ¬ r = 0 := two_a hwr hw
    refine lv_aload_n hx hb dL_law_739 rfl (lv_at hl 4 rfl) ?_
    have hPc : va_P D vwCl (MW b cI cZ cD u sh mst ts mbi mpr mba (nI t) (nI n) it tu lk mus mud mfs mfb mbo mso mpc mne) H := hP.sub [17, 18, 19, 20, 21, 22, 23, 24, 25, 26, 27, 28, 29, 30, 31, 32] rfl
    have hDc : va_D (fun q => s.heap.size ≤ q) (MW b cI cZ cD u sh mst ts mbi mpr mba (nI t) (nI n) it tu lk mus mud mfs mfb mbo mso mpc mne) := hD.sub [17, 18, 19, 20, 21, 22, 23, 24, 25, 26, 27, 28, 29, 30, 31, 32] (by decide) rfl
    have hFc := va_free (wc := MW b cI cZ cD u sh mst ts mbi mpr mba (nI t) (nI n) it tu lk mus mud mfs mfb mbo mso mpc mne) hD hS hA [17, 18, 19, 20, 21, 22, 23, 24, 25, 26, 27, 28, 29, 30, 31, 32] rfl
    refine va_calli (va_runV (As := []) (rest := []) ⟨hx, hb, hml, xk_od hown, dr_words hts _⟩ (mX2_thrown l D cI cZ cD b _ u sh mst ts mbi mpr mba (nI t) (nI n) it tu lk mus mud mfs mfb mbo mso mpc mne ) (cwV 0 (dr_words hts _) gL_law_X2_thrown rfl rfl rfl (by decide +kernel) ⟨Nat.le_of_ble_eq_true rfl, Nat.le_of_ble_eq_true rfl⟩) ⟨xk_blind, va_recv (yk_Kd hK) hP (ci := 2) (q0 := 17) rfl rfl, xk_pre hPc ((yk_Kd hK).sub [0, 1, 2] rfl) hDc⟩ rfl rfl hl.1 rfl (lv_room (Nat.le_of_ble_eq_true rfl)) dL_law_740 ⟨(by show _ ≤ 1065; omega), (by show _ ≤ 12181; omega)⟩) hS (fun q _ h => hFc q h) hFc (fun r8 u8 t9 H locs ht hvm hw hB hz1 hk1 hS => ?_)
    obtain ⟨hP1, -, hD1⟩ := hB
    rw [ht] at hP1
    obtain ⟨hP, hD⟩ := va_join (wr := XW a cI cZ cD sh sw ts bi it tu ne pr so lo (nI t) (nI n) lp lz lu lk ld lf lb lw ++ [(o9, .inl (cJ, 1, .inr (.inl fo))), (o8, .inl (cD, 1, .inr (.inr (.inr (.inl fd)))))]) (w1 := MW b cI cZ cD u sh mst ts mbi mpr mba (nI t) (nI n) it tu lk mus mud mfs mfb mbo mso mpc mne) hP hD [17, 18, 19, 20, 21, 22, 23, 24, 25, 26, 27, 28, 29, 30, 31, 32] [0, 1, 2, 3, 4, 5, 6, 7, 8, 9, 10, 11, 12, 13, 14, 15, 16, 33, 34] rfl rfl (by decide) (by decide) hk1 hFc hP1 hD1
    have hP : va_P D vwCl (WL o9 o8 cJ a b cI cZ cD sh sw ts bi it tu ne pr so lo (nI t) (nI n) lp lz lu lk ld lf lb lw u sh mst ts mbi mpr mba (nI t) (nI n) it tu lk mus mud mfs mfb mbo mso mpc mne fo fd) H := hP.sub [0, 1, 2, 3, 4, 5, 6, 7, 8, 9, 10, 11, 12, 13, 14, 15, 16, 19, 20, 21, 22, 23, 24, 25, 26, 27, 28, 29, 30, 31, 32, 33, 34, 17, 18] rfl
    have hD : va_D (fun q => s.heap.size ≤ q) (WL o9 o8 cJ a b cI cZ cD sh sw ts bi it tu ne pr so lo (nI t) (nI n) lp lz lu lk ld lf lb lw u sh mst ts mbi mpr mba (nI t) (nI n) it tu lk mus mud mfs mfb mbo mso mpc mne fo fd) := hD.sub [0, 1, 2, 3, 4, 5, 6, 7, 8, 9, 10, 11, 12, 13, 14, 15, 16, 19, 20, 21, 22, 23, 24, 25, 26, 27, 28, 29, 30, 31, 32, 33, 34, 17, 18] (by decide) rfl
    refine xk_i (y := u) hw ?_
    refine lv_iload hx hb dL_law_743 (lv_at hl 1 rfl) ?_
    refine lv_icmp_eq (tgt := 750) hx hb dL_law_745 (by decide) (fun c => ?_) (fun c => absurd hur.1 c)
    refine lv_iload hx hb dL_law_750 (lv_at hl 1 rfl) ?_
    refine lv_if_ne (tgt := 787) hx hb dL_law_752 (by decide) (fun c => ?_) (fun c => absurd c hur.2)
    refine lv_goto (tgt := 1232) hx hb dL_law_787 (by decide) ?_
    refine lv_iinc (v := nI (4 * (i + 1))) (lv' := [(5, .int (nI (4 * (i + 1)))), (7, .double r2), (6, .int r), (0, .ref b9), (1, .ref (a 0)), (2, .ref (b 0)), (3, .ref o9), (4, .ref o8)]) hx hb dL_law_1232 hl (k := 7) rfl (iinc4 i) (by decide) rfl (fun ls hl => ?_)
    refine lv_goto (tgt := 28) hx hb dL_law_1235 (by decide) ?_
    refine W.widen (k := 35 + (i + 1)) (n := 3953 + 6 * (i + 1)) (by omega) (by omega) ?_
    exact next _ _ _ _ ⟨n, t, sh, sw, ts, bi, it, tu, ne, pr, so, lo, lp, lz, lu, lk, ld, lf, lb, lw, u, mst, mbi, mpr, mba, mus, mud, mfs, mfb, mbo, mso, mpc, mne, fo, fd, ⟨hn, ht5, hsm, hsw, hit, hbi, hpr, hso, hlu, hld, hlf, hlz9, hlb, hlw, hlz, hlp⟩, hP, hD, hS, hdl, lv_sub hl [3, 4, 5, 6, 7, 0] rfl⟩
set_option maxHeartbeats 4000000 in
set_option maxRecDepth 100000 in
theorem ls_9 {p : Program} {l : Launch} {e : Env} {s : State} {m : MethodId} {below : List Frame} {meth : Method} {c : Code} {b9 L : Nat} {xs : Nat → Int32} {D : va_G} {cI cZ cD cJ : ClassId} (C : LC l p s m meth c b9 L xs D cI cZ cD cJ) {a b : Nat → Nat} {o9 o8 i : Nat} (hi4 : 4 * i + 4 ≤ L) {H : Heap} {locs : List Loc} {ls : Array Slot} {d : Drawn} (hI : LInv s D cI cZ cD cJ a b b9 o9 o8 i H locs ls d) (next : ∀ (H' : Heap) (locs' : List Loc) (ls' : Array Slot) (d' : Drawn), LInv s D cI cZ cD cJ a b b9 o9 o8 (i + 1) H' locs' ls' d' → W p l e room_1 (s.setDrawn d') m #[Value.ref b9] below meth c H' locs' (35 + (i + 1)) (3953 + 6 * (i + 1)) (lw_Z below #[Value.ref b9] s) (F0 m 28 ls' [])) : W p l e room_1 (s.setDrawn d) m #[Value.ref b9] below meth c H locs (35 + i) (3953 + 6 * i) (lw_Z below #[Value.ref b9] s) (F0 m 790 ls []) := by
  obtain ⟨hst, hL, C0, hE, hN, hK⟩ := C
  obtain ⟨hx, hb, hr, hml, hown, hts0, hX, hbl, hlocks, hgv⟩ := C0
  have hts : ∀ w ∈ wsL_law, w.before #[Value.ref b9] s = true := fun w h => hts0 w (wsL_law_in w h)
  obtain ⟨n, t, sh, sw, ts, bi, it, tu, ne, pr, so, lo, lp, lz, lu, lk, ld, lf, lb, lw, mth, mst, mbi, mpr, mba, mus, mud, mfs, mfb, mbo, mso, mpc, mne, fo, fd, ⟨hn, ht5, hsm, hsw, hit, hbi, hpr, hso, hlu, hld, hlf, hlz9, hlb, hlw, hlz, hlp⟩, hP, hD, hS, hdl, hl⟩ := hI
  have hA : ∀ q : Nat, s.heap.size ≤ q → (fun q => s.heap.size ≤ q) q := fun q h => h
  have hbA : ¬ (fun q => s.heap.size ≤ q) b9 := Nat.not_le.mpr hbl
  obtain ⟨x1, hx1⟩ : ∃ x, x = xs (nI (4 * i + 1)).toNatClampNeg := ⟨_, rfl⟩
  obtain ⟨x2, hx2⟩ : ∃ x, x = xs (nI (4 * i + 2)).toNatClampNeg := ⟨_, rfl⟩
  by_cases hg : inR x1 0 4 ∧ isQ n x2
  · skip
    obtain ⟨g1, g2⟩ := hg
    obtain ⟨o, ho4, rfl⟩ := inR_nI (n := 4) (by decide) g1
    have ho : o < 5 := by omega
    obtain ⟨q, hq, rfl⟩ := isQ_nI (by omega) g2
    refine lv_aload_n hx hb dL_law_790 rfl (lv_at hl 1 rfl) ?_
    refine lv_aload_n hx hb dL_law_791 rfl (lv_at hl 0 rfl) ?_
    refine lv_iload hx hb dL_law_792 (lv_at hl 5 rfl) ?_
    refine lv_iconst (v := nI 1) hx hb dL_law_794 (by decide) ?_
    refine lv_iadd hx hb dL_law_795 ?_
    refine xk_i (y := nI (4 * i + 1)) (nI_add _ _) ?_
    refine va_sld hx hb (X_drawn hX) hbl hbA hS (i := nI (4 * i + 1)) (vp_in_nI (by omega) (by omega)) dL_law_796 ?_
    refine xk_i (y := nI o) hx1.symm ?_
    refine lv_aload_n hx hb dL_law_797 rfl (lv_at hl 0 rfl) ?_
    refine lv_iload hx hb dL_law_798 (lv_at hl 5 rfl) ?_
    refine lv_iconst (v := nI 2) hx hb dL_law_800 (by decide) ?_
    refine lv_iadd hx hb dL_law_801 ?_
    refine xk_i (y := nI (4 * i + 2)) (nI_add _ _) ?_
    refine va_sld hx hb (X_drawn hX) hbl hbA hS (i := nI (4 * i + 2)) (vp_in_nI (by omega) (by omega)) dL_law_802 ?_
    refine xk_i (y := nI q) hx2.symm ?_
    refine lv_aload hx hb dL_law_803 (lv_at hl 4 rfl) ?_
    have hPc : va_P D vwCl (XWD o8 a cI cZ cD sh sw ts bi it tu ne pr so lo (nI t) (nI n) lp lz lu lk ld lf lb lw fd) H := hP.sub [0, 1, 2, 3, 4, 5, 6, 7, 8, 9, 10, 11, 12, 13, 14, 15, 16, 34] rfl
    have hDc : va_D (fun q => s.heap.size ≤ q) (XWD o8 a cI cZ cD sh sw ts bi it tu ne pr so lo (nI t) (nI n) lp lz lu lk ld lf lb lw fd) := hD.sub [0, 1, 2, 3, 4, 5, 6, 7, 8, 9, 10, 11, 12, 13, 14, 15, 16, 34] (by decide) rfl
    have hFc := va_free (wc := XWD o8 a cI cZ cD sh sw ts bi it tu ne pr so lo (nI t) (nI n) lp lz lu lk ld lf lb lw fd) hD hS hA [0, 1, 2, 3, 4, 5, 6, 7, 8, 9, 10, 11, 12, 13, 14, 15, 16, 34] rfl
    refine va_calli (vx_runSW (As := [.ref (a 0), .int (nI o), .int (nI q), .ref o8]) (rest := []) ⟨hx, hb, hml, xk_od hown, dr_words hts _⟩ (mL_fromBatteryV l D cI cZ cD cJ a o8 _ sh sw ts bi it tu ne pr so lo (nI t) lp lz lu lk ld lf lb lw fd n o q hn ho hq) (vx_cwSW 4 (dr_words hts _) gL_law_L_fromBattery rfl rfl rfl (by decide +kernel) ⟨Nat.le_of_ble_eq_true rfl, Nat.le_of_ble_eq_true rfl⟩) ⟨yk_blind, yk_pre hPc (yk_Kd hK) hDc⟩ rfl rfl hl.1 rfl (lv_room (Nat.le_of_ble_eq_true rfl)) dL_law_805 ⟨(by show _ ≤ 1065; omega), (by show _ ≤ 12181; omega)⟩) hS (fun q _ h => hFc q h) hFc (fun r u t9 H locs ht hvm hw hB hz1 hk1 hS => ?_)
    obtain ⟨z, fd1⟩ := u
    obtain ⟨rfl, hv1, hv2⟩ := hw
    dsimp only at hv1 hv2
    obtain ⟨hP1, -, hD1⟩ := hB
    rw [ht] at hP1
    obtain ⟨hP, hD⟩ := va_join (wr := MW b cI cZ cD mth sh mst ts mbi mpr mba (nI t) (nI n) it tu lk mus mud mfs mfb mbo mso mpc mne ++ [(o9, .inl (cJ, 1, .inr (.inl fo)))]) (w1 := XWD o8 a cI cZ cD sh sw ts bi it tu ne pr so lo (nI t) (nI n) lp lz lu lk ld lf lb lw fd1) hP hD [0, 1, 2, 3, 4, 5, 6, 7, 8, 9, 10, 11, 12, 13, 14, 15, 16, 34] [17, 18, 19, 20, 21, 22, 23, 24, 25, 26, 27, 28, 29, 30, 31, 32, 33] rfl rfl (by decide) (by decide) hk1 hFc hP1 hD1
    have hP : va_P D vwCl (WL o9 o8 cJ a b cI cZ cD sh sw ts bi it tu ne pr so lo (nI t) (nI n) lp lz lu lk ld lf lb lw mth sh mst ts mbi mpr mba (nI t) (nI n) it tu lk mus mud mfs mfb mbo mso mpc mne fo fd1) H := hP.sub [17, 18, 19, 20, 21, 22, 23, 24, 25, 26, 27, 28, 29, 30, 31, 32, 33, 0, 1, 2, 3, 4, 5, 6, 7, 8, 9, 10, 11, 12, 13, 14, 15, 16, 34] rfl
    have hD : va_D (fun q => s.heap.size ≤ q) (WL o9 o8 cJ a b cI cZ cD sh sw ts bi it tu ne pr so lo (nI t) (nI n) lp lz lu lk ld lf lb lw mth sh mst ts mbi mpr mba (nI t) (nI n) it tu lk mus mud mfs mfb mbo mso mpc mne fo fd1) := hD.sub [17, 18, 19, 20, 21, 22, 23, 24, 25, 26, 27, 28, 29, 30, 31, 32, 33, 0, 1, 2, 3, 4, 5, 6, 7, 8, 9, 10, 11, 12, 13, 14, 15, 16, 34] (by decide) rfl
    refine lv_istore (lv' := [(6, .int 0), (0, .ref b9), (1, .ref (a 0)), (2, .ref (b 0)), (3, .ref o9), (4, .ref o8), (5, .int (nI (4 * i)))]) hx hb dL_law_808 hl (by decide) rfl (fun ls hl => ?_)
    refine lv_aload_n hx hb dL_law_810 rfl (lv_at hl 3 rfl) ?_
    refine lv_aload_n hx hb dL_law_811 rfl (lv_at hl 1 rfl) ?_
    refine lv_iload hx hb dL_law_812 (lv_at hl 6 rfl) ?_
    refine lv_iconst (v := nI 1) hx hb dL_law_814 (by decide) ?_
    refine lv_iadd hx hb dL_law_815 ?_
    refine xk_i (y := nI (4 * i + 1)) (nI_add _ _) ?_
    refine va_sld hx hb (X_drawn hX) hbl hbA hS (i := nI (4 * i + 1)) (vp_in_nI (by omega) (by omega)) dL_law_816 ?_
    refine xk_i (y := nI o) hx1.symm ?_
    refine lv_aload_n hx hb dL_law_817 rfl (lv_at hl 1 rfl) ?_
    refine lv_iload hx hb dL_law_818 (lv_at hl 6 rfl) ?_
    refine lv_iconst (v := nI 2) hx hb dL_law_820 (by decide) ?_
    refine lv_iadd hx hb dL_law_821 ?_
    refine xk_i (y := nI (4 * i + 2)) (nI_add _ _) ?_
    refine va_sld hx hb (X_drawn hX) hbl hbA hS (i := nI (4 * i + 2)) (vp_in_nI (by omega) (by omega)) dL_law_822 ?_
    refine xk_i (y := nI q) hx2.symm ?_
    have hPc : va_P D vwCl (MW b cI cZ cD mth sh mst ts mbi mpr mba (nI t) (nI n) it tu lk mus mud mfs mfb mbo mso mpc mne) H := hP.sub [17, 18, 19, 20, 21, 22, 23, 24, 25, 26, 27, 28, 29, 30, 31, 32] rfl
    have hDc : va_D (fun q => s.heap.size ≤ q) (MW b cI cZ cD mth sh mst ts mbi mpr mba (nI t) (nI n) it tu lk mus mud mfs mfb mbo mso mpc mne) := hD.sub [17, 18, 19, 20, 21, 22, 23, 24, 25, 26, 27, 28, 29, 30, 31, 32] (by decide) rfl
    have hFc := va_free (wc := MW b cI cZ cD mth sh mst ts mbi mpr mba (nI t) (nI n) it tu lk mus mud mfs mfb mbo mso mpc mne) hD hS hA [17, 18, 19, 20, 21, 22, 23, 24, 25, 26, 27, 28, 29, 30, 31, 32] rfl
    refine va_calld (va_runV (As := [.int (nI o), .int (nI q)]) (rest := []) ⟨hx, hb, hml, xk_od hown, dr_words hts _⟩ (mX2_fromBatteryV l D cI cZ cD b _ mth sh mst ts mbi mpr mba (nI t) it tu lk mus mud mfs mfb mbo mso mpc mne n o q hn ho hq) (cwV 2 (dr_words hts _) gL_law_X2_fromBattery rfl rfl rfl (by decide +kernel) ⟨Nat.le_of_ble_eq_true rfl, Nat.le_of_ble_eq_true rfl⟩) ⟨xk_blind, va_recv (yk_Kd hK) hP (ci := 2) (q0 := 17) rfl rfl, xk_pre hPc ((yk_Kd hK).sub [0, 1, 2] rfl) hDc⟩ rfl rfl hl.1 rfl (lv_room (Nat.le_of_ble_eq_true rfl)) dL_law_823 ⟨(by show _ ≤ 1065; omega), (by show _ ≤ 12181; omega)⟩) hS (fun q _ h => hFc q h) hFc (fun r2 u t9 H locs ht hvm hw hB hz1 hk1 hS => ?_)
    obtain ⟨hP1, -, hD1⟩ := hB
    rw [ht] at hP1
    obtain ⟨hP, hD⟩ := va_join (wr := XW a cI cZ cD sh sw ts bi it tu ne pr so lo (nI t) (nI n) lp lz lu lk ld lf lb lw ++ [(o9, .inl (cJ, 1, .inr (.inl fo))), (o8, .inl (cD, 1, .inr (.inr (.inr (.inl fd1)))))]) (w1 := MW b cI cZ cD 0 sh mst ts mbi mpr mba (nI t) (nI n) it tu lk mus mud mfs mfb mbo mso mpc mne) hP hD [17, 18, 19, 20, 21, 22, 23, 24, 25, 26, 27, 28, 29, 30, 31, 32] [0, 1, 2, 3, 4, 5, 6, 7, 8, 9, 10, 11, 12, 13, 14, 15, 16, 33, 34] rfl rfl (by decide) (by decide) hk1 hFc hP1 hD1
    have hP : va_P D vwCl (WL o9 o8 cJ a b cI cZ cD sh sw ts bi it tu ne pr so lo (nI t) (nI n) lp lz lu lk ld lf lb lw 0 sh mst ts mbi mpr mba (nI t) (nI n) it tu lk mus mud mfs mfb mbo mso mpc mne fo fd1) H := hP.sub [0, 1, 2, 3, 4, 5, 6, 7, 8, 9, 10, 11, 12, 13, 14, 15, 16, 19, 20, 21, 22, 23, 24, 25, 26, 27, 28, 29, 30, 31, 32, 33, 34, 17, 18] rfl
    have hD : va_D (fun q => s.heap.size ≤ q) (WL o9 o8 cJ a b cI cZ cD sh sw ts bi it tu ne pr so lo (nI t) (nI n) lp lz lu lk ld lf lb lw 0 sh mst ts mbi mpr mba (nI t) (nI n) it tu lk mus mud mfs mfb mbo mso mpc mne fo fd1) := hD.sub [0, 1, 2, 3, 4, 5, 6, 7, 8, 9, 10, 11, 12, 13, 14, 15, 16, 19, 20, 21, 22, 23, 24, 25, 26, 27, 28, 29, 30, 31, 32, 33, 34, 17, 18] (by decide) rfl
    have hnz : nz (dt (fd1 0)) (dt r2) := by rw [hv1, hw]; exact Or.inl (dts_e hlb _)
    refine lv_dstore (lv' := [(7, .double r2), (6, .int 0), (0, .ref b9), (1, .ref (a 0)), (2, .ref (b 0)), (3, .ref o9), (4, .ref o8), (5, .int (nI (4 * i)))]) hx hb dL_law_826 hl (by decide) rfl (fun ls hl => ?_)
    refine lv_aload_n hx hb dL_law_828 rfl (lv_at hl 4 rfl) ?_
    have hPc : va_P D vwCl (MW b cI cZ cD 0 sh mst ts mbi mpr mba (nI t) (nI n) it tu lk mus mud mfs mfb mbo mso mpc mne) H := hP.sub [17, 18, 19, 20, 21, 22, 23, 24, 25, 26, 27, 28, 29, 30, 31, 32] rfl
    have hDc : va_D (fun q => s.heap.size ≤ q) (MW b cI cZ cD 0 sh mst ts mbi mpr mba (nI t) (nI n) it tu lk mus mud mfs mfb mbo mso mpc mne) := hD.sub [17, 18, 19, 20, 21, 22, 23, 24, 25, 26, 27, 28, 29, 30, 31, 32] (by decide) rfl
    have hFc := va_free (wc := MW b cI cZ cD 0 sh mst ts mbi mpr mba (nI t) (nI n) it tu lk mus mud mfs mfb mbo mso mpc mne) hD hS hA [17, 18, 19, 20, 21, 22, 23, 24, 25, 26, 27, 28, 29, 30, 31, 32] rfl
    refine va_calli (va_runV (As := []) (rest := []) ⟨hx, hb, hml, xk_od hown, dr_words hts _⟩ (mX2_thrown l D cI cZ cD b _ 0 sh mst ts mbi mpr mba (nI t) (nI n) it tu lk mus mud mfs mfb mbo mso mpc mne ) (cwV 0 (dr_words hts _) gL_law_X2_thrown rfl rfl rfl (by decide +kernel) ⟨Nat.le_of_ble_eq_true rfl, Nat.le_of_ble_eq_true rfl⟩) ⟨xk_blind, va_recv (yk_Kd hK) hP (ci := 2) (q0 := 17) rfl rfl, xk_pre hPc ((yk_Kd hK).sub [0, 1, 2] rfl) hDc⟩ rfl rfl hl.1 rfl (lv_room (Nat.le_of_ble_eq_true rfl)) dL_law_829 ⟨(by show _ ≤ 1065; omega), (by show _ ≤ 12181; omega)⟩) hS (fun q _ h => hFc q h) hFc (fun r8 u8 t9 H locs ht hvm hw hB hz1 hk1 hS => ?_)
    obtain ⟨hP1, -, hD1⟩ := hB
    rw [ht] at hP1
    obtain ⟨hP, hD⟩ := va_join (wr := XW a cI cZ cD sh sw ts bi it tu ne pr so lo (nI t) (nI n) lp lz lu lk ld lf lb lw ++ [(o9, .inl (cJ, 1, .inr (.inl fo))), (o8, .inl (cD, 1, .inr (.inr (.inr (.inl fd1)))))]) (w1 := MW b cI cZ cD 0 sh mst ts mbi mpr mba (nI t) (nI n) it tu lk mus mud mfs mfb mbo mso mpc mne) hP hD [17, 18, 19, 20, 21, 22, 23, 24, 25, 26, 27, 28, 29, 30, 31, 32] [0, 1, 2, 3, 4, 5, 6, 7, 8, 9, 10, 11, 12, 13, 14, 15, 16, 33, 34] rfl rfl (by decide) (by decide) hk1 hFc hP1 hD1
    have hP : va_P D vwCl (WL o9 o8 cJ a b cI cZ cD sh sw ts bi it tu ne pr so lo (nI t) (nI n) lp lz lu lk ld lf lb lw 0 sh mst ts mbi mpr mba (nI t) (nI n) it tu lk mus mud mfs mfb mbo mso mpc mne fo fd1) H := hP.sub [0, 1, 2, 3, 4, 5, 6, 7, 8, 9, 10, 11, 12, 13, 14, 15, 16, 19, 20, 21, 22, 23, 24, 25, 26, 27, 28, 29, 30, 31, 32, 33, 34, 17, 18] rfl
    have hD : va_D (fun q => s.heap.size ≤ q) (WL o9 o8 cJ a b cI cZ cD sh sw ts bi it tu ne pr so lo (nI t) (nI n) lp lz lu lk ld lf lb lw 0 sh mst ts mbi mpr mba (nI t) (nI n) it tu lk mus mud mfs mfb mbo mso mpc mne fo fd1) := hD.sub [0, 1, 2, 3, 4, 5, 6, 7, 8, 9, 10, 11, 12, 13, 14, 15, 16, 19, 20, 21, 22, 23, 24, 25, 26, 27, 28, 29, 30, 31, 32, 33, 34, 17, 18] (by decide) rfl
    refine xk_i (y := 0) hw ?_
    refine lv_iload hx hb dL_law_832 (lv_at hl 1 rfl) ?_
    refine lv_icmp_eq (tgt := 839) hx hb dL_law_834 (by decide) (fun c => ?_) (fun c => absurd rfl c)
    refine lv_iload hx hb dL_law_839 (lv_at hl 1 rfl) ?_
    refine lv_if_ne (tgt := 876) hx hb dL_law_841 (by decide) (fun c => absurd rfl c) (fun c => ?_)
    refine lv_aload hx hb dL_law_844 (lv_at hl 6 rfl) ?_
    refine lv_iconst (v := nI 0) hx hb dL_law_846 (by decide) ?_
    refine xk_dald hx hb (yk_Kd hK) hP 34 2 rfl rfl (o := 0) (by decide) (by decide) dL_law_847 ?_
    refine lv_dload hx hb dL_law_848 (lv_at hl 0 rfl) ?_
    refine lv_dcmp hx hb dL_law_850 ?_
    refine lv_if_eq (tgt := 876) hx hb dL_law_851 (by decide) (fun c => ?_) (fun c => ?_)
    · skip
      refine lv_goto (tgt := 1232) hx hb dL_law_876 (by decide) ?_
      refine lv_iinc (v := nI (4 * (i + 1))) (lv' := [(5, .int (nI (4 * (i + 1)))), (7, .double r2), (6, .int 0), (0, .ref b9), (1, .ref (a 0)), (2, .ref (b 0)), (3, .ref o9), (4, .ref o8)]) hx hb dL_law_1232 hl (k := 7) rfl (iinc4 i) (by decide) rfl (fun ls hl => ?_)
      refine lv_goto (tgt := 28) hx hb dL_law_1235 (by decide) ?_
      refine W.widen (k := 35 + (i + 1)) (n := 3953 + 6 * (i + 1)) (by omega) (by omega) ?_
      exact next _ _ _ _ ⟨n, t, sh, sw, ts, bi, it, tu, ne, pr, so, lo, lp, lz, lu, lk, ld, lf, lb, lw, 0, mst, mbi, mpr, mba, mus, mud, mfs, mfb, mbo, mso, mpc, mne, fo, fd1, ⟨hn, ht5, hsm, hsw, hit, hbi, hpr, hso, hlu, hld, hlf, hlz9, hlb, hlw, hlz, hlp⟩, hP, hD, hS, hdl, lv_sub hl [3, 4, 5, 6, 7, 0] rfl⟩
    · skip
      have hnn := (dCmp_nz hnz).resolve_left (fun z => c ((cv_l_eq _).mpr z))
      refine lv_aload hx hb dL_law_854 (lv_at hl 6 rfl) ?_
      refine lv_iconst (v := nI 0) hx hb dL_law_856 (by decide) ?_
      refine xk_dald hx hb (yk_Kd hK) hP 34 2 rfl rfl (o := 0) (by decide) (by decide) dL_law_857 ?_
      refine lv_aload hx hb dL_law_858 (lv_at hl 6 rfl) ?_
      refine lv_iconst (v := nI 0) hx hb dL_law_860 (by decide) ?_
      refine xk_dald hx hb (yk_Kd hK) hP 34 2 rfl rfl (o := 0) (by decide) (by decide) dL_law_861 ?_
      refine lv_dcmp hx hb dL_law_862 ?_
      refine lv_if_eq (tgt := 874) hx hb dL_law_863 (by decide) (fun c => absurd c (nan_ne hnn.1)) (fun c => ?_)
      refine lv_dload hx hb dL_law_866 (lv_at hl 0 rfl) ?_
      refine lv_dload hx hb dL_law_868 (lv_at hl 0 rfl) ?_
      refine lv_dcmp hx hb dL_law_870 ?_
      refine lv_if_ne (tgt := 876) hx hb dL_law_871 (by decide) (fun c => ?_) (fun c => absurd c (nan_ne hnn.2))
      refine lv_goto (tgt := 1232) hx hb dL_law_876 (by decide) ?_
      refine lv_iinc (v := nI (4 * (i + 1))) (lv' := [(5, .int (nI (4 * (i + 1)))), (7, .double r2), (6, .int 0), (0, .ref b9), (1, .ref (a 0)), (2, .ref (b 0)), (3, .ref o9), (4, .ref o8)]) hx hb dL_law_1232 hl (k := 7) rfl (iinc4 i) (by decide) rfl (fun ls hl => ?_)
      refine lv_goto (tgt := 28) hx hb dL_law_1235 (by decide) ?_
      refine W.widen (k := 35 + (i + 1)) (n := 3953 + 6 * (i + 1)) (by omega) (by omega) ?_
      exact next _ _ _ _ ⟨n, t, sh, sw, ts, bi, it, tu, ne, pr, so, lo, lp, lz, lu, lk, ld, lf, lb, lw, 0, mst, mbi, mpr, mba, mus, mud, mfs, mfb, mbo, mso, mpc, mne, fo, fd1, ⟨hn, ht5, hsm, hsw, hit, hbi, hpr, hso, hlu, hld, hlf, hlz9, hlb, hlw, hlz, hlp⟩, hP, hD, hS, hdl, lv_sub hl [3, 4, 5, 6, 7, 0] rfl⟩
  · skip
    refine lv_aload_n hx hb dL_law_790 rfl (lv_at hl 1 rfl) ?_
    refine lv_aload_n hx hb dL_law_791 rfl (lv_at hl 0 rfl) ?_
    refine lv_iload hx hb dL_law_792 (lv_at hl 5 rfl) ?_
    refine lv_iconst (v := nI 1) hx hb dL_law_794 (by decide) ?_
    refine lv_iadd hx hb dL_law_795 ?_
    refine xk_i (y := nI (4 * i + 1)) (nI_add _ _) ?_
    refine va_sld hx hb (X_drawn hX) hbl hbA hS (i := nI (4 * i + 1)) (vp_in_nI (by omega) (by omega)) dL_law_796 ?_
    refine xk_i (y := x1) hx1.symm ?_
    refine lv_aload_n hx hb dL_law_797 rfl (lv_at hl 0 rfl) ?_
    refine lv_iload hx hb dL_law_798 (lv_at hl 5 rfl) ?_
    refine lv_iconst (v := nI 2) hx hb dL_law_800 (by decide) ?_
    refine lv_iadd hx hb dL_law_801 ?_
    refine xk_i (y := nI (4 * i + 2)) (nI_add _ _) ?_
    refine va_sld hx hb (X_drawn hX) hbl hbA hS (i := nI (4 * i + 2)) (vp_in_nI (by omega) (by omega)) dL_law_802 ?_
    refine xk_i (y := x2) hx2.symm ?_
    refine lv_aload hx hb dL_law_803 (lv_at hl 4 rfl) ?_
    have hPx : va_P D vwCl (XW a cI cZ cD sh sw ts bi it tu ne pr so lo (nI t) (nI n) lp lz lu lk ld lf lb lw) H := hP.sub [0, 1, 2, 3, 4, 5, 6, 7, 8, 9, 10, 11, 12, 13, 14, 15, 16] rfl
    have hDx : va_D (fun q => s.heap.size ≤ q) (XW a cI cZ cD sh sw ts bi it tu ne pr so lo (nI t) (nI n) lp lz lu lk ld lf lb lw) := hD.sub [0, 1, 2, 3, 4, 5, 6, 7, 8, 9, 10, 11, 12, 13, 14, 15, 16] (by decide) rfl
    refine va_calli (vx_runSW (As := [.ref (a 0), .int x1, .int x2, .ref o8]) (rest := []) ⟨hx, hb, hml, xk_od hown, dr_words hts _⟩ (mL_fromBatteryX l hst D cI cZ cD a H sh sw ts bi it tu ne pr so lo (nI t) lp lz lu lk ld lf lb lw o8 n x1 x2 hg) (vx_cwSW 4 (dr_words hts _) gL_law_L_fromBattery rfl rfl rfl (by decide +kernel) ⟨Nat.le_of_ble_eq_true rfl, Nat.le_of_ble_eq_true rfl⟩) ⟨zq_blind, zq_pre hPx ((yk_Kd hK).sub [0, 1, 2] rfl) hDx hE.drawn hN.drawn hS hA⟩ rfl rfl hl.1 rfl (lv_room (Nat.le_of_ble_eq_true rfl)) dL_law_805 ⟨(by show _ ≤ 1065; omega), (by show _ ≤ 12181; omega)⟩) hS (fun q h1 h2 => absurd h2 (Nat.not_le.mpr h1)) (fun q h => Nat.le_trans hS.1 h) (fun r u t9 H9 locs ht hvm hwr hB hz1 hk1 hS => ?_)
    have hP : va_P D vwCl (WL o9 o8 cJ a b cI cZ cD sh sw ts bi it tu ne pr so lo (nI t) (nI n) lp lz lu lk ld lf lb lw mth sh mst ts mbi mpr mba (nI t) (nI n) it tu lk mus mud mfs mfb mbo mso mpc mne fo fd) H9 := hP.kept (fun k q hq => hk1 q.1 (hP k q hq).lt (Nat.not_le.mpr (hP k q hq).lt))
    generalize H9 = H at hP hS ⊢
    refine lv_istore (lv' := [(6, .int r), (0, .ref b9), (1, .ref (a 0)), (2, .ref (b 0)), (3, .ref o9), (4, .ref o8), (5, .int (nI (4 * i)))]) hx hb dL_law_808 hl (by decide) rfl (fun ls hl => ?_)
    refine lv_aload_n hx hb dL_law_810 rfl (lv_at hl 3 rfl) ?_
    refine lv_aload_n hx hb dL_law_811 rfl (lv_at hl 1 rfl) ?_
    refine lv_iload hx hb dL_law_812 (lv_at hl 6 rfl) ?_
    refine lv_iconst (v := nI 1) hx hb dL_law_814 (by decide) ?_
    refine lv_iadd hx hb dL_law_815 ?_
    refine xk_i (y := nI (4 * i + 1)) (nI_add _ _) ?_
    refine va_sld hx hb (X_drawn hX) hbl hbA hS (i := nI (4 * i + 1)) (vp_in_nI (by omega) (by omega)) dL_law_816 ?_
    refine xk_i (y := x1) hx1.symm ?_
    refine lv_aload_n hx hb dL_law_817 rfl (lv_at hl 1 rfl) ?_
    refine lv_iload hx hb dL_law_818 (lv_at hl 6 rfl) ?_
    refine lv_iconst (v := nI 2) hx hb dL_law_820 (by decide) ?_
    refine lv_iadd hx hb dL_law_821 ?_
    refine xk_i (y := nI (4 * i + 2)) (nI_add _ _) ?_
    refine va_sld hx hb (X_drawn hX) hbl hbA hS (i := nI (4 * i + 2)) (vp_in_nI (by omega) (by omega)) dL_law_822 ?_
    refine xk_i (y := x2) hx2.symm ?_
    have hPc : va_P D vwCl (MW b cI cZ cD mth sh mst ts mbi mpr mba (nI t) (nI n) it tu lk mus mud mfs mfb mbo mso mpc mne) H := hP.sub [17, 18, 19, 20, 21, 22, 23, 24, 25, 26, 27, 28, 29, 30, 31, 32] rfl
    have hDc : va_D (fun q => s.heap.size ≤ q) (MW b cI cZ cD mth sh mst ts mbi mpr mba (nI t) (nI n) it tu lk mus mud mfs mfb mbo mso mpc mne) := hD.sub [17, 18, 19, 20, 21, 22, 23, 24, 25, 26, 27, 28, 29, 30, 31, 32] (by decide) rfl
    have hFc := va_free (wc := MW b cI cZ cD mth sh mst ts mbi mpr mba (nI t) (nI n) it tu lk mus mud mfs mfb mbo mso mpc mne) hD hS hA [17, 18, 19, 20, 21, 22, 23, 24, 25, 26, 27, 28, 29, 30, 31, 32] rfl
    refine va_calld (va_runV (As := [.int x1, .int x2]) (rest := []) ⟨hx, hb, hml, xk_od hown, dr_words hts _⟩ (mX2_fromBatteryX l D cI cZ cD b _ mth sh mst ts mbi mpr mba (nI t) it tu lk mus mud mfs mfb mbo mso mpc mne n hn x1 x2 hg) (cwV 2 (dr_words hts _) gL_law_X2_fromBattery rfl rfl rfl (by decide +kernel) ⟨Nat.le_of_ble_eq_true rfl, Nat.le_of_ble_eq_true rfl⟩) ⟨xk_blind, va_recv (yk_Kd hK) hP (ci := 2) (q0 := 17) rfl rfl, xk_pre hPc ((yk_Kd hK).sub [0, 1, 2] rfl) hDc⟩ rfl rfl hl.1 rfl (lv_room (Nat.le_of_ble_eq_true rfl)) dL_law_823 ⟨(by show _ ≤ 1065; omega), (by show _ ≤ 12181; omega)⟩) hS (fun q _ h => hFc q h) hFc (fun r2 u t9 H locs ht hvm hw hB hz1 hk1 hS => ?_)
    obtain ⟨hP1, -, hD1⟩ := hB
    rw [ht] at hP1
    obtain ⟨hP, hD⟩ := va_join (wr := XW a cI cZ cD sh sw ts bi it tu ne pr so lo (nI t) (nI n) lp lz lu lk ld lf lb lw ++ [(o9, .inl (cJ, 1, .inr (.inl fo))), (o8, .inl (cD, 1, .inr (.inr (.inr (.inl fd)))))]) (w1 := MW b cI cZ cD u sh mst ts mbi mpr mba (nI t) (nI n) it tu lk mus mud mfs mfb mbo mso mpc mne) hP hD [17, 18, 19, 20, 21, 22, 23, 24, 25, 26, 27, 28, 29, 30, 31, 32] [0, 1, 2, 3, 4, 5, 6, 7, 8, 9, 10, 11, 12, 13, 14, 15, 16, 33, 34] rfl rfl (by decide) (by decide) hk1 hFc hP1 hD1
    have hP : va_P D vwCl (WL o9 o8 cJ a b cI cZ cD sh sw ts bi it tu ne pr so lo (nI t) (nI n) lp lz lu lk ld lf lb lw u sh mst ts mbi mpr mba (nI t) (nI n) it tu lk mus mud mfs mfb mbo mso mpc mne fo fd) H := hP.sub [0, 1, 2, 3, 4, 5, 6, 7, 8, 9, 10, 11, 12, 13, 14, 15, 16, 19, 20, 21, 22, 23, 24, 25, 26, 27, 28, 29, 30, 31, 32, 33, 34, 17, 18] rfl
    have hD : va_D (fun q => s.heap.size ≤ q) (WL o9 o8 cJ a b cI cZ cD sh sw ts bi it tu ne pr so lo (nI t) (nI n) lp lz lu lk ld lf lb lw u sh mst ts mbi mpr mba (nI t) (nI n) it tu lk mus mud mfs mfb mbo mso mpc mne fo fd) := hD.sub [0, 1, 2, 3, 4, 5, 6, 7, 8, 9, 10, 11, 12, 13, 14, 15, 16, 19, 20, 21, 22, 23, 24, 25, 26, 27, 28, 29, 30, 31, 32, 33, 34, 17, 18] (by decide) rfl
    refine lv_dstore (lv' := [(7, .double r2), (6, .int r), (0, .ref b9), (1, .ref (a 0)), (2, .ref (b 0)), (3, .ref o9), (4, .ref o8), (5, .int (nI (4 * i)))]) hx hb dL_law_826 hl (by decide) rfl (fun ls hl => ?_)
    have hur : u = r ∧ ¬ r = 0 := two_a hwr hw
    refine lv_aload_n hx hb dL_law_828 rfl (lv_at hl 4 rfl) ?_
    have hPc : va_P D vwCl (MW b cI cZ cD u sh mst ts mbi mpr mba (nI t) (nI n) it tu lk mus mud mfs mfb mbo mso mpc mne) H := hP.sub [17, 18, 19, 20, 21, 22, 23, 24, 25, 26, 27, 28, 29, 30, 31, 32] rfl
    have hDc : va_D (fun q => s.heap.size ≤ q) (MW b cI cZ cD u sh mst ts mbi mpr mba (nI t) (nI n) it tu lk mus mud mfs mfb mbo mso mpc mne) := hD.sub [17, 18, 19, 20, 21, 22, 23, 24, 25, 26, 27, 28, 29, 30, 31, 32] (by decide) rfl
    have hFc := va_free (wc := MW b cI cZ cD u sh mst ts mbi mpr mba (nI t) (nI n) it tu lk mus mud mfs mfb mbo mso mpc mne) hD hS hA [17, 18, 19, 20, 21, 22, 23, 24, 25, 26, 27, 28, 29, 30, 31, 32] rfl
    refine va_calli (va_runV (As := []) (rest := []) ⟨hx, hb, hml, xk_od hown, dr_words hts _⟩ (mX2_thrown l D cI cZ cD b _ u sh mst ts mbi mpr mba (nI t) (nI n) it tu lk mus mud mfs mfb mbo mso mpc mne ) (cwV 0 (dr_words hts _) gL_law_X2_thrown rfl rfl rfl (by decide +kernel) ⟨Nat.le_of_ble_eq_true rfl, Nat.le_of_ble_eq_true rfl⟩) ⟨xk_blind, va_recv (yk_Kd hK) hP (ci := 2) (q0 := 17) rfl rfl, xk_pre hPc ((yk_Kd hK).sub [0, 1, 2] rfl) hDc⟩ rfl rfl hl.1 rfl (lv_room (Nat.le_of_ble_eq_true rfl)) dL_law_829 ⟨(by show _ ≤ 1065; omega), (by show _ ≤ 12181; omega)⟩) hS (fun q _ h => hFc q h) hFc (fun r8 u8 t9 H locs ht hvm hw hB hz1 hk1 hS => ?_)
    obtain ⟨hP1, -, hD1⟩ := hB
    rw [ht] at hP1
    obtain ⟨hP, hD⟩ := va_join (wr := XW a cI cZ cD sh sw ts bi it tu ne pr so lo (nI t) (nI n) lp lz lu lk ld lf lb lw ++ [(o9, .inl (cJ, 1, .inr (.inl fo))), (o8, .inl (cD, 1, .inr (.inr (.inr (.inl fd)))))]) (w1 := MW b cI cZ cD u sh mst ts mbi mpr mba (nI t) (nI n) it tu lk mus mud mfs mfb mbo mso mpc mne) hP hD [17, 18, 19, 20, 21, 22, 23, 24, 25, 26, 27, 28, 29, 30, 31, 32] [0, 1, 2, 3, 4, 5, 6, 7, 8, 9, 10, 11, 12, 13, 14, 15, 16, 33, 34] rfl rfl (by decide) (by decide) hk1 hFc hP1 hD1
    have hP : va_P D vwCl (WL o9 o8 cJ a b cI cZ cD sh sw ts bi it tu ne pr so lo (nI t) (nI n) lp lz lu lk ld lf lb lw u sh mst ts mbi mpr mba (nI t) (nI n) it tu lk mus mud mfs mfb mbo mso mpc mne fo fd) H := hP.sub [0, 1, 2, 3, 4, 5, 6, 7, 8, 9, 10, 11, 12, 13, 14, 15, 16, 19, 20, 21, 22, 23, 24, 25, 26, 27, 28, 29, 30, 31, 32, 33, 34, 17, 18] rfl
    have hD : va_D (fun q => s.heap.size ≤ q) (WL o9 o8 cJ a b cI cZ cD sh sw ts bi it tu ne pr so lo (nI t) (nI n) lp lz lu lk ld lf lb lw u sh mst ts mbi mpr mba (nI t) (nI n) it tu lk mus mud mfs mfb mbo mso mpc mne fo fd) := hD.sub [0, 1, 2, 3, 4, 5, 6, 7, 8, 9, 10, 11, 12, 13, 14, 15, 16, 19, 20, 21, 22, 23, 24, 25, 26, 27, 28, 29, 30, 31, 32, 33, 34, 17, 18] (by decide) rfl
    refine xk_i (y := u) hw ?_
    refine lv_iload hx hb dL_law_832 (lv_at hl 1 rfl) ?_
    refine lv_icmp_eq (tgt := 839) hx hb dL_law_834 (by decide) (fun c => ?_) (fun c => absurd hur.1 c)
    refine lv_iload hx hb dL_law_839 (lv_at hl 1 rfl) ?_
    refine lv_if_ne (tgt := 876) hx hb dL_law_841 (by decide) (fun c => ?_) (fun c => absurd c hur.2)
    refine lv_goto (tgt := 1232) hx hb dL_law_876 (by decide) ?_
    refine lv_iinc (v := nI (4 * (i + 1))) (lv' := [(5, .int (nI (4 * (i + 1)))), (7, .double r2), (6, .int r), (0, .ref b9), (1, .ref (a 0)), (2, .ref (b 0)), (3, .ref o9), (4, .ref o8)]) hx hb dL_law_1232 hl (k := 7) rfl (iinc4 i) (by decide) rfl (fun ls hl => ?_)
    refine lv_goto (tgt := 28) hx hb dL_law_1235 (by decide) ?_
    refine W.widen (k := 35 + (i + 1)) (n := 3953 + 6 * (i + 1)) (by omega) (by omega) ?_
    exact next _ _ _ _ ⟨n, t, sh, sw, ts, bi, it, tu, ne, pr, so, lo, lp, lz, lu, lk, ld, lf, lb, lw, u, mst, mbi, mpr, mba, mus, mud, mfs, mfb, mbo, mso, mpc, mne, fo, fd, ⟨hn, ht5, hsm, hsw, hit, hbi, hpr, hso, hlu, hld, hlf, hlz9, hlb, hlw, hlz, hlp⟩, hP, hD, hS, hdl, lv_sub hl [3, 4, 5, 6, 7, 0] rfl⟩
set_option maxHeartbeats 4000000 in
set_option maxRecDepth 100000 in
theorem ls_10 {p : Program} {l : Launch} {e : Env} {s : State} {m : MethodId} {below : List Frame} {meth : Method} {c : Code} {b9 L : Nat} {xs : Nat → Int32} {D : va_G} {cI cZ cD cJ : ClassId} (C : LC l p s m meth c b9 L xs D cI cZ cD cJ) {a b : Nat → Nat} {o9 o8 i : Nat} (hi4 : 4 * i + 4 ≤ L) {H : Heap} {locs : List Loc} {ls : Array Slot} {d : Drawn} (hI : LInv s D cI cZ cD cJ a b b9 o9 o8 i H locs ls d) (next : ∀ (H' : Heap) (locs' : List Loc) (ls' : Array Slot) (d' : Drawn), LInv s D cI cZ cD cJ a b b9 o9 o8 (i + 1) H' locs' ls' d' → W p l e room_1 (s.setDrawn d') m #[Value.ref b9] below meth c H' locs' (35 + (i + 1)) (3953 + 6 * (i + 1)) (lw_Z below #[Value.ref b9] s) (F0 m 28 ls' [])) : W p l e room_1 (s.setDrawn d) m #[Value.ref b9] below meth c H locs (35 + i) (3953 + 6 * i) (lw_Z below #[Value.ref b9] s) (F0 m 879 ls []) := by
  obtain ⟨hst, hL, C0, hE, hN, hK⟩ := C
  obtain ⟨hx, hb, hr, hml, hown, hts0, hX, hbl, hlocks, hgv⟩ := C0
  have hts : ∀ w ∈ wsL_law, w.before #[Value.ref b9] s = true := fun w h => hts0 w (wsL_law_in w h)
  obtain ⟨n, t, sh, sw, ts, bi, it, tu, ne, pr, so, lo, lp, lz, lu, lk, ld, lf, lb, lw, mth, mst, mbi, mpr, mba, mus, mud, mfs, mfb, mbo, mso, mpc, mne, fo, fd, ⟨hn, ht5, hsm, hsw, hit, hbi, hpr, hso, hlu, hld, hlf, hlz9, hlb, hlw, hlz, hlp⟩, hP, hD, hS, hdl, hl⟩ := hI
  have hA : ∀ q : Nat, s.heap.size ≤ q → (fun q => s.heap.size ≤ q) q := fun q h => h
  have hbA : ¬ (fun q => s.heap.size ≤ q) b9 := Nat.not_le.mpr hbl
  obtain ⟨x1, hx1⟩ : ∃ x, x = xs (nI (4 * i + 1)).toNatClampNeg := ⟨_, rfl⟩
  obtain ⟨x2, hx2⟩ : ∃ x, x = xs (nI (4 * i + 2)).toNatClampNeg := ⟨_, rfl⟩
  by_cases hg : inR x1 0 4 ∧ isQ n x2
  · skip
    obtain ⟨g1, g2⟩ := hg
    obtain ⟨o, ho4, rfl⟩ := inR_nI (n := 4) (by decide) g1
    have ho : o < 5 := by omega
    obtain ⟨q, hq, rfl⟩ := isQ_nI (by omega) g2
    refine lv_aload_n hx hb dL_law_879 rfl (lv_at hl 1 rfl) ?_
    refine lv_aload_n hx hb dL_law_880 rfl (lv_at hl 0 rfl) ?_
    refine lv_iload hx hb dL_law_881 (lv_at hl 5 rfl) ?_
    refine lv_iconst (v := nI 1) hx hb dL_law_883 (by decide) ?_
    refine lv_iadd hx hb dL_law_884 ?_
    refine xk_i (y := nI (4 * i + 1)) (nI_add _ _) ?_
    refine va_sld hx hb (X_drawn hX) hbl hbA hS (i := nI (4 * i + 1)) (vp_in_nI (by omega) (by omega)) dL_law_885 ?_
    refine xk_i (y := nI o) hx1.symm ?_
    refine lv_aload_n hx hb dL_law_886 rfl (lv_at hl 0 rfl) ?_
    refine lv_iload hx hb dL_law_887 (lv_at hl 5 rfl) ?_
    refine lv_iconst (v := nI 2) hx hb dL_law_889 (by decide) ?_
    refine lv_iadd hx hb dL_law_890 ?_
    refine xk_i (y := nI (4 * i + 2)) (nI_add _ _) ?_
    refine va_sld hx hb (X_drawn hX) hbl hbA hS (i := nI (4 * i + 2)) (vp_in_nI (by omega) (by omega)) dL_law_891 ?_
    refine xk_i (y := nI q) hx2.symm ?_
    refine lv_aload hx hb dL_law_892 (lv_at hl 4 rfl) ?_
    have hPc : va_P D vwCl (XWD o8 a cI cZ cD sh sw ts bi it tu ne pr so lo (nI t) (nI n) lp lz lu lk ld lf lb lw fd) H := hP.sub [0, 1, 2, 3, 4, 5, 6, 7, 8, 9, 10, 11, 12, 13, 14, 15, 16, 34] rfl
    have hDc : va_D (fun q => s.heap.size ≤ q) (XWD o8 a cI cZ cD sh sw ts bi it tu ne pr so lo (nI t) (nI n) lp lz lu lk ld lf lb lw fd) := hD.sub [0, 1, 2, 3, 4, 5, 6, 7, 8, 9, 10, 11, 12, 13, 14, 15, 16, 34] (by decide) rfl
    have hFc := va_free (wc := XWD o8 a cI cZ cD sh sw ts bi it tu ne pr so lo (nI t) (nI n) lp lz lu lk ld lf lb lw fd) hD hS hA [0, 1, 2, 3, 4, 5, 6, 7, 8, 9, 10, 11, 12, 13, 14, 15, 16, 34] rfl
    refine va_calli (vx_runSW (As := [.ref (a 0), .int (nI o), .int (nI q), .ref o8]) (rest := []) ⟨hx, hb, hml, xk_od hown, dr_words hts _⟩ (mL_boughtV l D cI cZ cD cJ a o8 _ sh sw ts bi it tu ne pr so lo (nI t) lp lz lu lk ld lf lb lw fd n o q hn ho hq) (vx_cwSW 4 (dr_words hts _) gL_law_L_bought rfl rfl rfl (by decide +kernel) ⟨Nat.le_of_ble_eq_true rfl, Nat.le_of_ble_eq_true rfl⟩) ⟨yk_blind, yk_pre hPc (yk_Kd hK) hDc⟩ rfl rfl hl.1 rfl (lv_room (Nat.le_of_ble_eq_true rfl)) dL_law_894 ⟨(by show _ ≤ 1065; omega), (by show _ ≤ 12181; omega)⟩) hS (fun q _ h => hFc q h) hFc (fun r u t9 H locs ht hvm hw hB hz1 hk1 hS => ?_)
    obtain ⟨z, fd1⟩ := u
    obtain ⟨rfl, hv1, hv2⟩ := hw
    dsimp only at hv1 hv2
    obtain ⟨hP1, -, hD1⟩ := hB
    rw [ht] at hP1
    obtain ⟨hP, hD⟩ := va_join (wr := MW b cI cZ cD mth sh mst ts mbi mpr mba (nI t) (nI n) it tu lk mus mud mfs mfb mbo mso mpc mne ++ [(o9, .inl (cJ, 1, .inr (.inl fo)))]) (w1 := XWD o8 a cI cZ cD sh sw ts bi it tu ne pr so lo (nI t) (nI n) lp lz lu lk ld lf lb lw fd1) hP hD [0, 1, 2, 3, 4, 5, 6, 7, 8, 9, 10, 11, 12, 13, 14, 15, 16, 34] [17, 18, 19, 20, 21, 22, 23, 24, 25, 26, 27, 28, 29, 30, 31, 32, 33] rfl rfl (by decide) (by decide) hk1 hFc hP1 hD1
    have hP : va_P D vwCl (WL o9 o8 cJ a b cI cZ cD sh sw ts bi it tu ne pr so lo (nI t) (nI n) lp lz lu lk ld lf lb lw mth sh mst ts mbi mpr mba (nI t) (nI n) it tu lk mus mud mfs mfb mbo mso mpc mne fo fd1) H := hP.sub [17, 18, 19, 20, 21, 22, 23, 24, 25, 26, 27, 28, 29, 30, 31, 32, 33, 0, 1, 2, 3, 4, 5, 6, 7, 8, 9, 10, 11, 12, 13, 14, 15, 16, 34] rfl
    have hD : va_D (fun q => s.heap.size ≤ q) (WL o9 o8 cJ a b cI cZ cD sh sw ts bi it tu ne pr so lo (nI t) (nI n) lp lz lu lk ld lf lb lw mth sh mst ts mbi mpr mba (nI t) (nI n) it tu lk mus mud mfs mfb mbo mso mpc mne fo fd1) := hD.sub [17, 18, 19, 20, 21, 22, 23, 24, 25, 26, 27, 28, 29, 30, 31, 32, 33, 0, 1, 2, 3, 4, 5, 6, 7, 8, 9, 10, 11, 12, 13, 14, 15, 16, 34] (by decide) rfl
    refine lv_istore (lv' := [(6, .int 0), (0, .ref b9), (1, .ref (a 0)), (2, .ref (b 0)), (3, .ref o9), (4, .ref o8), (5, .int (nI (4 * i)))]) hx hb dL_law_897 hl (by decide) rfl (fun ls hl => ?_)
    refine lv_aload_n hx hb dL_law_899 rfl (lv_at hl 3 rfl) ?_
    refine lv_aload_n hx hb dL_law_900 rfl (lv_at hl 1 rfl) ?_
    refine lv_iload hx hb dL_law_901 (lv_at hl 6 rfl) ?_
    refine lv_iconst (v := nI 1) hx hb dL_law_903 (by decide) ?_
    refine lv_iadd hx hb dL_law_904 ?_
    refine xk_i (y := nI (4 * i + 1)) (nI_add _ _) ?_
    refine va_sld hx hb (X_drawn hX) hbl hbA hS (i := nI (4 * i + 1)) (vp_in_nI (by omega) (by omega)) dL_law_905 ?_
    refine xk_i (y := nI o) hx1.symm ?_
    refine lv_aload_n hx hb dL_law_906 rfl (lv_at hl 1 rfl) ?_
    refine lv_iload hx hb dL_law_907 (lv_at hl 6 rfl) ?_
    refine lv_iconst (v := nI 2) hx hb dL_law_909 (by decide) ?_
    refine lv_iadd hx hb dL_law_910 ?_
    refine xk_i (y := nI (4 * i + 2)) (nI_add _ _) ?_
    refine va_sld hx hb (X_drawn hX) hbl hbA hS (i := nI (4 * i + 2)) (vp_in_nI (by omega) (by omega)) dL_law_911 ?_
    refine xk_i (y := nI q) hx2.symm ?_
    have hPc : va_P D vwCl (MW b cI cZ cD mth sh mst ts mbi mpr mba (nI t) (nI n) it tu lk mus mud mfs mfb mbo mso mpc mne) H := hP.sub [17, 18, 19, 20, 21, 22, 23, 24, 25, 26, 27, 28, 29, 30, 31, 32] rfl
    have hDc : va_D (fun q => s.heap.size ≤ q) (MW b cI cZ cD mth sh mst ts mbi mpr mba (nI t) (nI n) it tu lk mus mud mfs mfb mbo mso mpc mne) := hD.sub [17, 18, 19, 20, 21, 22, 23, 24, 25, 26, 27, 28, 29, 30, 31, 32] (by decide) rfl
    have hFc := va_free (wc := MW b cI cZ cD mth sh mst ts mbi mpr mba (nI t) (nI n) it tu lk mus mud mfs mfb mbo mso mpc mne) hD hS hA [17, 18, 19, 20, 21, 22, 23, 24, 25, 26, 27, 28, 29, 30, 31, 32] rfl
    refine va_calld (va_runV (As := [.int (nI o), .int (nI q)]) (rest := []) ⟨hx, hb, hml, xk_od hown, dr_words hts _⟩ (mX2_boughtV l D cI cZ cD b _ mth sh mst ts mbi mpr mba (nI t) it tu lk mus mud mfs mfb mbo mso mpc mne n o q hn ho hq) (cwV 2 (dr_words hts _) gL_law_X2_bought rfl rfl rfl (by decide +kernel) ⟨Nat.le_of_ble_eq_true rfl, Nat.le_of_ble_eq_true rfl⟩) ⟨xk_blind, va_recv (yk_Kd hK) hP (ci := 2) (q0 := 17) rfl rfl, xk_pre hPc ((yk_Kd hK).sub [0, 1, 2] rfl) hDc⟩ rfl rfl hl.1 rfl (lv_room (Nat.le_of_ble_eq_true rfl)) dL_law_912 ⟨(by show _ ≤ 1065; omega), (by show _ ≤ 12181; omega)⟩) hS (fun q _ h => hFc q h) hFc (fun r2 u t9 H locs ht hvm hw hB hz1 hk1 hS => ?_)
    obtain ⟨hP1, -, hD1⟩ := hB
    rw [ht] at hP1
    obtain ⟨hP, hD⟩ := va_join (wr := XW a cI cZ cD sh sw ts bi it tu ne pr so lo (nI t) (nI n) lp lz lu lk ld lf lb lw ++ [(o9, .inl (cJ, 1, .inr (.inl fo))), (o8, .inl (cD, 1, .inr (.inr (.inr (.inl fd1)))))]) (w1 := MW b cI cZ cD 0 sh mst ts mbi mpr mba (nI t) (nI n) it tu lk mus mud mfs mfb mbo mso mpc mne) hP hD [17, 18, 19, 20, 21, 22, 23, 24, 25, 26, 27, 28, 29, 30, 31, 32] [0, 1, 2, 3, 4, 5, 6, 7, 8, 9, 10, 11, 12, 13, 14, 15, 16, 33, 34] rfl rfl (by decide) (by decide) hk1 hFc hP1 hD1
    have hP : va_P D vwCl (WL o9 o8 cJ a b cI cZ cD sh sw ts bi it tu ne pr so lo (nI t) (nI n) lp lz lu lk ld lf lb lw 0 sh mst ts mbi mpr mba (nI t) (nI n) it tu lk mus mud mfs mfb mbo mso mpc mne fo fd1) H := hP.sub [0, 1, 2, 3, 4, 5, 6, 7, 8, 9, 10, 11, 12, 13, 14, 15, 16, 19, 20, 21, 22, 23, 24, 25, 26, 27, 28, 29, 30, 31, 32, 33, 34, 17, 18] rfl
    have hD : va_D (fun q => s.heap.size ≤ q) (WL o9 o8 cJ a b cI cZ cD sh sw ts bi it tu ne pr so lo (nI t) (nI n) lp lz lu lk ld lf lb lw 0 sh mst ts mbi mpr mba (nI t) (nI n) it tu lk mus mud mfs mfb mbo mso mpc mne fo fd1) := hD.sub [0, 1, 2, 3, 4, 5, 6, 7, 8, 9, 10, 11, 12, 13, 14, 15, 16, 19, 20, 21, 22, 23, 24, 25, 26, 27, 28, 29, 30, 31, 32, 33, 34, 17, 18] (by decide) rfl
    have hnz : nz (dt (fd1 0)) (dt r2) := by rw [hv1, hw]; exact Or.inl (dts_e hlw _)
    refine lv_dstore (lv' := [(7, .double r2), (6, .int 0), (0, .ref b9), (1, .ref (a 0)), (2, .ref (b 0)), (3, .ref o9), (4, .ref o8), (5, .int (nI (4 * i)))]) hx hb dL_law_915 hl (by decide) rfl (fun ls hl => ?_)
    refine lv_aload_n hx hb dL_law_917 rfl (lv_at hl 4 rfl) ?_
    have hPc : va_P D vwCl (MW b cI cZ cD 0 sh mst ts mbi mpr mba (nI t) (nI n) it tu lk mus mud mfs mfb mbo mso mpc mne) H := hP.sub [17, 18, 19, 20, 21, 22, 23, 24, 25, 26, 27, 28, 29, 30, 31, 32] rfl
    have hDc : va_D (fun q => s.heap.size ≤ q) (MW b cI cZ cD 0 sh mst ts mbi mpr mba (nI t) (nI n) it tu lk mus mud mfs mfb mbo mso mpc mne) := hD.sub [17, 18, 19, 20, 21, 22, 23, 24, 25, 26, 27, 28, 29, 30, 31, 32] (by decide) rfl
    have hFc := va_free (wc := MW b cI cZ cD 0 sh mst ts mbi mpr mba (nI t) (nI n) it tu lk mus mud mfs mfb mbo mso mpc mne) hD hS hA [17, 18, 19, 20, 21, 22, 23, 24, 25, 26, 27, 28, 29, 30, 31, 32] rfl
    refine va_calli (va_runV (As := []) (rest := []) ⟨hx, hb, hml, xk_od hown, dr_words hts _⟩ (mX2_thrown l D cI cZ cD b _ 0 sh mst ts mbi mpr mba (nI t) (nI n) it tu lk mus mud mfs mfb mbo mso mpc mne ) (cwV 0 (dr_words hts _) gL_law_X2_thrown rfl rfl rfl (by decide +kernel) ⟨Nat.le_of_ble_eq_true rfl, Nat.le_of_ble_eq_true rfl⟩) ⟨xk_blind, va_recv (yk_Kd hK) hP (ci := 2) (q0 := 17) rfl rfl, xk_pre hPc ((yk_Kd hK).sub [0, 1, 2] rfl) hDc⟩ rfl rfl hl.1 rfl (lv_room (Nat.le_of_ble_eq_true rfl)) dL_law_918 ⟨(by show _ ≤ 1065; omega), (by show _ ≤ 12181; omega)⟩) hS (fun q _ h => hFc q h) hFc (fun r8 u8 t9 H locs ht hvm hw hB hz1 hk1 hS => ?_)
    obtain ⟨hP1, -, hD1⟩ := hB
    rw [ht] at hP1
    obtain ⟨hP, hD⟩ := va_join (wr := XW a cI cZ cD sh sw ts bi it tu ne pr so lo (nI t) (nI n) lp lz lu lk ld lf lb lw ++ [(o9, .inl (cJ, 1, .inr (.inl fo))), (o8, .inl (cD, 1, .inr (.inr (.inr (.inl fd1)))))]) (w1 := MW b cI cZ cD 0 sh mst ts mbi mpr mba (nI t) (nI n) it tu lk mus mud mfs mfb mbo mso mpc mne) hP hD [17, 18, 19, 20, 21, 22, 23, 24, 25, 26, 27, 28, 29, 30, 31, 32] [0, 1, 2, 3, 4, 5, 6, 7, 8, 9, 10, 11, 12, 13, 14, 15, 16, 33, 34] rfl rfl (by decide) (by decide) hk1 hFc hP1 hD1
    have hP : va_P D vwCl (WL o9 o8 cJ a b cI cZ cD sh sw ts bi it tu ne pr so lo (nI t) (nI n) lp lz lu lk ld lf lb lw 0 sh mst ts mbi mpr mba (nI t) (nI n) it tu lk mus mud mfs mfb mbo mso mpc mne fo fd1) H := hP.sub [0, 1, 2, 3, 4, 5, 6, 7, 8, 9, 10, 11, 12, 13, 14, 15, 16, 19, 20, 21, 22, 23, 24, 25, 26, 27, 28, 29, 30, 31, 32, 33, 34, 17, 18] rfl
    have hD : va_D (fun q => s.heap.size ≤ q) (WL o9 o8 cJ a b cI cZ cD sh sw ts bi it tu ne pr so lo (nI t) (nI n) lp lz lu lk ld lf lb lw 0 sh mst ts mbi mpr mba (nI t) (nI n) it tu lk mus mud mfs mfb mbo mso mpc mne fo fd1) := hD.sub [0, 1, 2, 3, 4, 5, 6, 7, 8, 9, 10, 11, 12, 13, 14, 15, 16, 19, 20, 21, 22, 23, 24, 25, 26, 27, 28, 29, 30, 31, 32, 33, 34, 17, 18] (by decide) rfl
    refine xk_i (y := 0) hw ?_
    refine lv_iload hx hb dL_law_921 (lv_at hl 1 rfl) ?_
    refine lv_icmp_eq (tgt := 928) hx hb dL_law_923 (by decide) (fun c => ?_) (fun c => absurd rfl c)
    refine lv_iload hx hb dL_law_928 (lv_at hl 1 rfl) ?_
    refine lv_if_ne (tgt := 965) hx hb dL_law_930 (by decide) (fun c => absurd rfl c) (fun c => ?_)
    refine lv_aload hx hb dL_law_933 (lv_at hl 6 rfl) ?_
    refine lv_iconst (v := nI 0) hx hb dL_law_935 (by decide) ?_
    refine xk_dald hx hb (yk_Kd hK) hP 34 2 rfl rfl (o := 0) (by decide) (by decide) dL_law_936 ?_
    refine lv_dload hx hb dL_law_937 (lv_at hl 0 rfl) ?_
    refine lv_dcmp hx hb dL_law_939 ?_
    refine lv_if_eq (tgt := 965) hx hb dL_law_940 (by decide) (fun c => ?_) (fun c => ?_)
    · skip
      refine lv_goto (tgt := 1232) hx hb dL_law_965 (by decide) ?_
      refine lv_iinc (v := nI (4 * (i + 1))) (lv' := [(5, .int (nI (4 * (i + 1)))), (7, .double r2), (6, .int 0), (0, .ref b9), (1, .ref (a 0)), (2, .ref (b 0)), (3, .ref o9), (4, .ref o8)]) hx hb dL_law_1232 hl (k := 7) rfl (iinc4 i) (by decide) rfl (fun ls hl => ?_)
      refine lv_goto (tgt := 28) hx hb dL_law_1235 (by decide) ?_
      refine W.widen (k := 35 + (i + 1)) (n := 3953 + 6 * (i + 1)) (by omega) (by omega) ?_
      exact next _ _ _ _ ⟨n, t, sh, sw, ts, bi, it, tu, ne, pr, so, lo, lp, lz, lu, lk, ld, lf, lb, lw, 0, mst, mbi, mpr, mba, mus, mud, mfs, mfb, mbo, mso, mpc, mne, fo, fd1, ⟨hn, ht5, hsm, hsw, hit, hbi, hpr, hso, hlu, hld, hlf, hlz9, hlb, hlw, hlz, hlp⟩, hP, hD, hS, hdl, lv_sub hl [3, 4, 5, 6, 7, 0] rfl⟩
    · skip
      have hnn := (dCmp_nz hnz).resolve_left (fun z => c ((cv_l_eq _).mpr z))
      refine lv_aload hx hb dL_law_943 (lv_at hl 6 rfl) ?_
      refine lv_iconst (v := nI 0) hx hb dL_law_945 (by decide) ?_
      refine xk_dald hx hb (yk_Kd hK) hP 34 2 rfl rfl (o := 0) (by decide) (by decide) dL_law_946 ?_
      refine lv_aload hx hb dL_law_947 (lv_at hl 6 rfl) ?_
      refine lv_iconst (v := nI 0) hx hb dL_law_949 (by decide) ?_
      refine xk_dald hx hb (yk_Kd hK) hP 34 2 rfl rfl (o := 0) (by decide) (by decide) dL_law_950 ?_
      refine lv_dcmp hx hb dL_law_951 ?_
      refine lv_if_eq (tgt := 963) hx hb dL_law_952 (by decide) (fun c => absurd c (nan_ne hnn.1)) (fun c => ?_)
      refine lv_dload hx hb dL_law_955 (lv_at hl 0 rfl) ?_
      refine lv_dload hx hb dL_law_957 (lv_at hl 0 rfl) ?_
      refine lv_dcmp hx hb dL_law_959 ?_
      refine lv_if_ne (tgt := 965) hx hb dL_law_960 (by decide) (fun c => ?_) (fun c => absurd c (nan_ne hnn.2))
      refine lv_goto (tgt := 1232) hx hb dL_law_965 (by decide) ?_
      refine lv_iinc (v := nI (4 * (i + 1))) (lv' := [(5, .int (nI (4 * (i + 1)))), (7, .double r2), (6, .int 0), (0, .ref b9), (1, .ref (a 0)), (2, .ref (b 0)), (3, .ref o9), (4, .ref o8)]) hx hb dL_law_1232 hl (k := 7) rfl (iinc4 i) (by decide) rfl (fun ls hl => ?_)
      refine lv_goto (tgt := 28) hx hb dL_law_1235 (by decide) ?_
      refine W.widen (k := 35 + (i + 1)) (n := 3953 + 6 * (i + 1)) (by omega) (by omega) ?_
      exact next _ _ _ _ ⟨n, t, sh, sw, ts, bi, it, tu, ne, pr, so, lo, lp, lz, lu, lk, ld, lf, lb, lw, 0, mst, mbi, mpr, mba, mus, mud, mfs, mfb, mbo, mso, mpc, mne, fo, fd1, ⟨hn, ht5, hsm, hsw, hit, hbi, hpr, hso, hlu, hld, hlf, hlz9, hlb, hlw, hlz, hlp⟩, hP, hD, hS, hdl, lv_sub hl [3, 4, 5, 6, 7, 0] rfl⟩
  · skip
    refine lv_aload_n hx hb dL_law_879 rfl (lv_at hl 1 rfl) ?_
    refine lv_aload_n hx hb dL_law_880 rfl (lv_at hl 0 rfl) ?_
    refine lv_iload hx hb dL_law_881 (lv_at hl 5 rfl) ?_
    refine lv_iconst (v := nI 1) hx hb dL_law_883 (by decide) ?_
    refine lv_iadd hx hb dL_law_884 ?_
    refine xk_i (y := nI (4 * i + 1)) (nI_add _ _) ?_
    refine va_sld hx hb (X_drawn hX) hbl hbA hS (i := nI (4 * i + 1)) (vp_in_nI (by omega) (by omega)) dL_law_885 ?_
    refine xk_i (y := x1) hx1.symm ?_
    refine lv_aload_n hx hb dL_law_886 rfl (lv_at hl 0 rfl) ?_
    refine lv_iload hx hb dL_law_887 (lv_at hl 5 rfl) ?_
    refine lv_iconst (v := nI 2) hx hb dL_law_889 (by decide) ?_
    refine lv_iadd hx hb dL_law_890 ?_
    refine xk_i (y := nI (4 * i + 2)) (nI_add _ _) ?_
    refine va_sld hx hb (X_drawn hX) hbl hbA hS (i := nI (4 * i + 2)) (vp_in_nI (by omega) (by omega)) dL_law_891 ?_
    refine xk_i (y := x2) hx2.symm ?_
    refine lv_aload hx hb dL_law_892 (lv_at hl 4 rfl) ?_
    have hPx : va_P D vwCl (XW a cI cZ cD sh sw ts bi it tu ne pr so lo (nI t) (nI n) lp lz lu lk ld lf lb lw) H := hP.sub [0, 1, 2, 3, 4, 5, 6, 7, 8, 9, 10, 11, 12, 13, 14, 15, 16] rfl
    have hDx : va_D (fun q => s.heap.size ≤ q) (XW a cI cZ cD sh sw ts bi it tu ne pr so lo (nI t) (nI n) lp lz lu lk ld lf lb lw) := hD.sub [0, 1, 2, 3, 4, 5, 6, 7, 8, 9, 10, 11, 12, 13, 14, 15, 16] (by decide) rfl
    refine va_calli (vx_runSW (As := [.ref (a 0), .int x1, .int x2, .ref o8]) (rest := []) ⟨hx, hb, hml, xk_od hown, dr_words hts _⟩ (mL_boughtX l hst D cI cZ cD a H sh sw ts bi it tu ne pr so lo (nI t) lp lz lu lk ld lf lb lw o8 n x1 x2 hg) (vx_cwSW 4 (dr_words hts _) gL_law_L_bought rfl rfl rfl (by decide +kernel) ⟨Nat.le_of_ble_eq_true rfl, Nat.le_of_ble_eq_true rfl⟩) ⟨zq_blind, zq_pre hPx ((yk_Kd hK).sub [0, 1, 2] rfl) hDx hE.drawn hN.drawn hS hA⟩ rfl rfl hl.1 rfl (lv_room (Nat.le_of_ble_eq_true rfl)) dL_law_894 ⟨(by show _ ≤ 1065; omega), (by show _ ≤ 12181; omega)⟩) hS (fun q h1 h2 => absurd h2 (Nat.not_le.mpr h1)) (fun q h => Nat.le_trans hS.1 h) (fun r u t9 H9 locs ht hvm hwr hB hz1 hk1 hS => ?_)
    have hP : va_P D vwCl (WL o9 o8 cJ a b cI cZ cD sh sw ts bi it tu ne pr so lo (nI t) (nI n) lp lz lu lk ld lf lb lw mth sh mst ts mbi mpr mba (nI t) (nI n) it tu lk mus mud mfs mfb mbo mso mpc mne fo fd) H9 := hP.kept (fun k q hq => hk1 q.1 (hP k q hq).lt (Nat.not_le.mpr (hP k q hq).lt))
    generalize H9 = H at hP hS ⊢
    refine lv_istore (lv' := [(6, .int r), (0, .ref b9), (1, .ref (a 0)), (2, .ref (b 0)), (3, .ref o9), (4, .ref o8), (5, .int (nI (4 * i)))]) hx hb dL_law_897 hl (by decide) rfl (fun ls hl => ?_)
    refine lv_aload_n hx hb dL_law_899 rfl (lv_at hl 3 rfl) ?_
    refine lv_aload_n hx hb dL_law_900 rfl (lv_at hl 1 rfl) ?_
    refine lv_iload hx hb dL_law_901 (lv_at hl 6 rfl) ?_
    refine lv_iconst (v := nI 1) hx hb dL_law_903 (by decide) ?_
    refine lv_iadd hx hb dL_law_904 ?_
    refine xk_i (y := nI (4 * i + 1)) (nI_add _ _) ?_
    refine va_sld hx hb (X_drawn hX) hbl hbA hS (i := nI (4 * i + 1)) (vp_in_nI (by omega) (by omega)) dL_law_905 ?_
    refine xk_i (y := x1) hx1.symm ?_
    refine lv_aload_n hx hb dL_law_906 rfl (lv_at hl 1 rfl) ?_
    refine lv_iload hx hb dL_law_907 (lv_at hl 6 rfl) ?_
    refine lv_iconst (v := nI 2) hx hb dL_law_909 (by decide) ?_
    refine lv_iadd hx hb dL_law_910 ?_
    refine xk_i (y := nI (4 * i + 2)) (nI_add _ _) ?_
    refine va_sld hx hb (X_drawn hX) hbl hbA hS (i := nI (4 * i + 2)) (vp_in_nI (by omega) (by omega)) dL_law_911 ?_
    refine xk_i (y := x2) hx2.symm ?_
    have hPc : va_P D vwCl (MW b cI cZ cD mth sh mst ts mbi mpr mba (nI t) (nI n) it tu lk mus mud mfs mfb mbo mso mpc mne) H := hP.sub [17, 18, 19, 20, 21, 22, 23, 24, 25, 26, 27, 28, 29, 30, 31, 32] rfl
    have hDc : va_D (fun q => s.heap.size ≤ q) (MW b cI cZ cD mth sh mst ts mbi mpr mba (nI t) (nI n) it tu lk mus mud mfs mfb mbo mso mpc mne) := hD.sub [17, 18, 19, 20, 21, 22, 23, 24, 25, 26, 27, 28, 29, 30, 31, 32] (by decide) rfl
    have hFc := va_free (wc := MW b cI cZ cD mth sh mst ts mbi mpr mba (nI t) (nI n) it tu lk mus mud mfs mfb mbo mso mpc mne) hD hS hA [17, 18, 19, 20, 21, 22, 23, 24, 25, 26, 27, 28, 29, 30, 31, 32] rfl
    refine va_calld (va_runV (As := [.int x1, .int x2]) (rest := []) ⟨hx, hb, hml, xk_od hown, dr_words hts _⟩ (mX2_boughtX l D cI cZ cD b _ mth sh mst ts mbi mpr mba (nI t) it tu lk mus mud mfs mfb mbo mso mpc mne n hn x1 x2 hg) (cwV 2 (dr_words hts _) gL_law_X2_bought rfl rfl rfl (by decide +kernel) ⟨Nat.le_of_ble_eq_true rfl, Nat.le_of_ble_eq_true rfl⟩) ⟨xk_blind, va_recv (yk_Kd hK) hP (ci := 2) (q0 := 17) rfl rfl, xk_pre hPc ((yk_Kd hK).sub [0, 1, 2] rfl) hDc⟩ rfl rfl hl.1 rfl (lv_room (Nat.le_of_ble_eq_true rfl)) dL_law_912 ⟨(by show _ ≤ 1065; omega), (by show _ ≤ 12181; omega)⟩) hS (fun q _ h => hFc q h) hFc (fun r2 u t9 H locs ht hvm hw hB hz1 hk1 hS => ?_)
    obtain ⟨hP1, -, hD1⟩ := hB
    rw [ht] at hP1
    obtain ⟨hP, hD⟩ := va_join (wr := XW a cI cZ cD sh sw ts bi it tu ne pr so lo (nI t) (nI n) lp lz lu lk ld lf lb lw ++ [(o9, .inl (cJ, 1, .inr (.inl fo))), (o8, .inl (cD, 1, .inr (.inr (.inr (.inl fd)))))]) (w1 := MW b cI cZ cD u sh mst ts mbi mpr mba (nI t) (nI n) it tu lk mus mud mfs mfb mbo mso mpc mne) hP hD [17, 18, 19, 20, 21, 22, 23, 24, 25, 26, 27, 28, 29, 30, 31, 32] [0, 1, 2, 3, 4, 5, 6, 7, 8, 9, 10, 11, 12, 13, 14, 15, 16, 33, 34] rfl rfl (by decide) (by decide) hk1 hFc hP1 hD1
    have hP : va_P D vwCl (WL o9 o8 cJ a b cI cZ cD sh sw ts bi it tu ne pr so lo (nI t) (nI n) lp lz lu lk ld lf lb lw u sh mst ts mbi mpr mba (nI t) (nI n) it tu lk mus mud mfs mfb mbo mso mpc mne fo fd) H := hP.sub [0, 1, 2, 3, 4, 5, 6, 7, 8, 9, 10, 11, 12, 13, 14, 15, 16, 19, 20, 21, 22, 23, 24, 25, 26, 27, 28, 29, 30, 31, 32, 33, 34, 17, 18] rfl
    have hD : va_D (fun q => s.heap.size ≤ q) (WL o9 o8 cJ a b cI cZ cD sh sw ts bi it tu ne pr so lo (nI t) (nI n) lp lz lu lk ld lf lb lw u sh mst ts mbi mpr mba (nI t) (nI n) it tu lk mus mud mfs mfb mbo mso mpc mne fo fd) := hD.sub [0, 1, 2, 3, 4, 5, 6, 7, 8, 9, 10, 11, 12, 13, 14, 15, 16, 19, 20, 21, 22, 23, 24, 25, 26, 27, 28, 29, 30, 31, 32, 33, 34, 17, 18] (by decide) rfl
    refine lv_dstore (lv' := [(7, .double r2), (6, .int r), (0, .ref b9), (1, .ref (a 0)), (2, .ref (b 0)), (3, .ref o9), (4, .ref o8), (5, .int (nI (4 * i)))]) hx hb dL_law_915 hl (by decide) rfl (fun ls hl => ?_)
    have hur : u = r ∧ ¬ r = 0 := two_a hwr hw
    refine lv_aload_n hx hb dL_law_917 rfl (lv_at hl 4 rfl) ?_
    have hPc : va_P D vwCl (MW b cI cZ cD u sh mst ts mbi mpr mba (nI t) (nI n) it tu lk mus mud mfs mfb mbo mso mpc mne) H := hP.sub [17, 18, 19, 20, 21, 22, 23, 24, 25, 26, 27, 28, 29, 30, 31, 32] rfl
    have hDc : va_D (fun q => s.heap.size ≤ q) (MW b cI cZ cD u sh mst ts mbi mpr mba (nI t) (nI n) it tu lk mus mud mfs mfb mbo mso mpc mne) := hD.sub [17, 18, 19, 20, 21, 22, 23, 24, 25, 26, 27, 28, 29, 30, 31, 32] (by decide) rfl
    have hFc := va_free (wc := MW b cI cZ cD u sh mst ts mbi mpr mba (nI t) (nI n) it tu lk mus mud mfs mfb mbo mso mpc mne) hD hS hA [17, 18, 19, 20, 21, 22, 23, 24, 25, 26, 27, 28, 29, 30, 31, 32] rfl
    refine va_calli (va_runV (As := []) (rest := []) ⟨hx, hb, hml, xk_od hown, dr_words hts _⟩ (mX2_thrown l D cI cZ cD b _ u sh mst ts mbi mpr mba (nI t) (nI n) it tu lk mus mud mfs mfb mbo mso mpc mne ) (cwV 0 (dr_words hts _) gL_law_X2_thrown rfl rfl rfl (by decide +kernel) ⟨Nat.le_of_ble_eq_true rfl, Nat.le_of_ble_eq_true rfl⟩) ⟨xk_blind, va_recv (yk_Kd hK) hP (ci := 2) (q0 := 17) rfl rfl, xk_pre hPc ((yk_Kd hK).sub [0, 1, 2] rfl) hDc⟩ rfl rfl hl.1 rfl (lv_room (Nat.le_of_ble_eq_true rfl)) dL_law_918 ⟨(by show _ ≤ 1065; omega), (by show _ ≤ 12181; omega)⟩) hS (fun q _ h => hFc q h) hFc (fun r8 u8 t9 H locs ht hvm hw hB hz1 hk1 hS => ?_)
    obtain ⟨hP1, -, hD1⟩ := hB
    rw [ht] at hP1
    obtain ⟨hP, hD⟩ := va_join (wr := XW a cI cZ cD sh sw ts bi it tu ne pr so lo (nI t) (nI n) lp lz lu lk ld lf lb lw ++ [(o9, .inl (cJ, 1, .inr (.inl fo))), (o8, .inl (cD, 1, .inr (.inr (.inr (.inl fd)))))]) (w1 := MW b cI cZ cD u sh mst ts mbi mpr mba (nI t) (nI n) it tu lk mus mud mfs mfb mbo mso mpc mne) hP hD [17, 18, 19, 20, 21, 22, 23, 24, 25, 26, 27, 28, 29, 30, 31, 32] [0, 1, 2, 3, 4, 5, 6, 7, 8, 9, 10, 11, 12, 13, 14, 15, 16, 33, 34] rfl rfl (by decide) (by decide) hk1 hFc hP1 hD1
    have hP : va_P D vwCl (WL o9 o8 cJ a b cI cZ cD sh sw ts bi it tu ne pr so lo (nI t) (nI n) lp lz lu lk ld lf lb lw u sh mst ts mbi mpr mba (nI t) (nI n) it tu lk mus mud mfs mfb mbo mso mpc mne fo fd) H := hP.sub [0, 1, 2, 3, 4, 5, 6, 7, 8, 9, 10, 11, 12, 13, 14, 15, 16, 19, 20, 21, 22, 23, 24, 25, 26, 27, 28, 29, 30, 31, 32, 33, 34, 17, 18] rfl
    have hD : va_D (fun q => s.heap.size ≤ q) (WL o9 o8 cJ a b cI cZ cD sh sw ts bi it tu ne pr so lo (nI t) (nI n) lp lz lu lk ld lf lb lw u sh mst ts mbi mpr mba (nI t) (nI n) it tu lk mus mud mfs mfb mbo mso mpc mne fo fd) := hD.sub [0, 1, 2, 3, 4, 5, 6, 7, 8, 9, 10, 11, 12, 13, 14, 15, 16, 19, 20, 21, 22, 23, 24, 25, 26, 27, 28, 29, 30, 31, 32, 33, 34, 17, 18] (by decide) rfl
    refine xk_i (y := u) hw ?_
    refine lv_iload hx hb dL_law_921 (lv_at hl 1 rfl) ?_
    refine lv_icmp_eq (tgt := 928) hx hb dL_law_923 (by decide) (fun c => ?_) (fun c => absurd hur.1 c)
    refine lv_iload hx hb dL_law_928 (lv_at hl 1 rfl) ?_
    refine lv_if_ne (tgt := 965) hx hb dL_law_930 (by decide) (fun c => ?_) (fun c => absurd c hur.2)
    refine lv_goto (tgt := 1232) hx hb dL_law_965 (by decide) ?_
    refine lv_iinc (v := nI (4 * (i + 1))) (lv' := [(5, .int (nI (4 * (i + 1)))), (7, .double r2), (6, .int r), (0, .ref b9), (1, .ref (a 0)), (2, .ref (b 0)), (3, .ref o9), (4, .ref o8)]) hx hb dL_law_1232 hl (k := 7) rfl (iinc4 i) (by decide) rfl (fun ls hl => ?_)
    refine lv_goto (tgt := 28) hx hb dL_law_1235 (by decide) ?_
    refine W.widen (k := 35 + (i + 1)) (n := 3953 + 6 * (i + 1)) (by omega) (by omega) ?_
    exact next _ _ _ _ ⟨n, t, sh, sw, ts, bi, it, tu, ne, pr, so, lo, lp, lz, lu, lk, ld, lf, lb, lw, u, mst, mbi, mpr, mba, mus, mud, mfs, mfb, mbo, mso, mpc, mne, fo, fd, ⟨hn, ht5, hsm, hsw, hit, hbi, hpr, hso, hlu, hld, hlf, hlz9, hlb, hlw, hlz, hlp⟩, hP, hD, hS, hdl, lv_sub hl [3, 4, 5, 6, 7, 0] rfl⟩
set_option maxHeartbeats 4000000 in
set_option maxRecDepth 100000 in
theorem ls_11 {p : Program} {l : Launch} {e : Env} {s : State} {m : MethodId} {below : List Frame} {meth : Method} {c : Code} {b9 L : Nat} {xs : Nat → Int32} {D : va_G} {cI cZ cD cJ : ClassId} (C : LC l p s m meth c b9 L xs D cI cZ cD cJ) {a b : Nat → Nat} {o9 o8 i : Nat} (hi4 : 4 * i + 4 ≤ L) {H : Heap} {locs : List Loc} {ls : Array Slot} {d : Drawn} (hI : LInv s D cI cZ cD cJ a b b9 o9 o8 i H locs ls d) (next : ∀ (H' : Heap) (locs' : List Loc) (ls' : Array Slot) (d' : Drawn), LInv s D cI cZ cD cJ a b b9 o9 o8 (i + 1) H' locs' ls' d' → W p l e room_1 (s.setDrawn d') m #[Value.ref b9] below meth c H' locs' (35 + (i + 1)) (3953 + 6 * (i + 1)) (lw_Z below #[Value.ref b9] s) (F0 m 28 ls' [])) : W p l e room_1 (s.setDrawn d) m #[Value.ref b9] below meth c H locs (35 + i) (3953 + 6 * i) (lw_Z below #[Value.ref b9] s) (F0 m 968 ls []) := by
  obtain ⟨hst, hL, C0, hE, hN, hK⟩ := C
  obtain ⟨hx, hb, hr, hml, hown, hts0, hX, hbl, hlocks, hgv⟩ := C0
  have hts : ∀ w ∈ wsL_law, w.before #[Value.ref b9] s = true := fun w h => hts0 w (wsL_law_in w h)
  obtain ⟨n, t, sh, sw, ts, bi, it, tu, ne, pr, so, lo, lp, lz, lu, lk, ld, lf, lb, lw, mth, mst, mbi, mpr, mba, mus, mud, mfs, mfb, mbo, mso, mpc, mne, fo, fd, ⟨hn, ht5, hsm, hsw, hit, hbi, hpr, hso, hlu, hld, hlf, hlz9, hlb, hlw, hlz, hlp⟩, hP, hD, hS, hdl, hl⟩ := hI
  have hA : ∀ q : Nat, s.heap.size ≤ q → (fun q => s.heap.size ≤ q) q := fun q h => h
  have hbA : ¬ (fun q => s.heap.size ≤ q) b9 := Nat.not_le.mpr hbl
  obtain ⟨x1, hx1⟩ : ∃ x, x = xs (nI (4 * i + 1)).toNatClampNeg := ⟨_, rfl⟩
  by_cases hg : isQ n x1
  · skip
    obtain ⟨q, hq, rfl⟩ := isQ_nI (by omega) hg
    refine lv_aload_n hx hb dL_law_968 rfl (lv_at hl 1 rfl) ?_
    refine lv_aload_n hx hb dL_law_969 rfl (lv_at hl 0 rfl) ?_
    refine lv_iload hx hb dL_law_970 (lv_at hl 5 rfl) ?_
    refine lv_iconst (v := nI 1) hx hb dL_law_972 (by decide) ?_
    refine lv_iadd hx hb dL_law_973 ?_
    refine xk_i (y := nI (4 * i + 1)) (nI_add _ _) ?_
    refine va_sld hx hb (X_drawn hX) hbl hbA hS (i := nI (4 * i + 1)) (vp_in_nI (by omega) (by omega)) dL_law_974 ?_
    refine xk_i (y := nI q) hx1.symm ?_
    refine lv_aload hx hb dL_law_975 (lv_at hl 4 rfl) ?_
    have hPc : va_P D vwCl (XWD o8 a cI cZ cD sh sw ts bi it tu ne pr so lo (nI t) (nI n) lp lz lu lk ld lf lb lw fd) H := hP.sub [0, 1, 2, 3, 4, 5, 6, 7, 8, 9, 10, 11, 12, 13, 14, 15, 16, 34] rfl
    have hDc : va_D (fun q => s.heap.size ≤ q) (XWD o8 a cI cZ cD sh sw ts bi it tu ne pr so lo (nI t) (nI n) lp lz lu lk ld lf lb lw fd) := hD.sub [0, 1, 2, 3, 4, 5, 6, 7, 8, 9, 10, 11, 12, 13, 14, 15, 16, 34] (by decide) rfl
    have hFc := va_free (wc := XWD o8 a cI cZ cD sh sw ts bi it tu ne pr so lo (nI t) (nI n) lp lz lu lk ld lf lb lw fd) hD hS hA [0, 1, 2, 3, 4, 5, 6, 7, 8, 9, 10, 11, 12, 13, 14, 15, 16, 34] rfl
    refine va_calli (vx_runSW (As := [.ref (a 0), .int (nI q), .ref o8]) (rest := []) ⟨hx, hb, hml, xk_od hown, dr_words hts _⟩ (mL_soldV l D cI cZ cD cJ a o8 _ sh sw ts bi it tu ne pr so lo (nI t) lp lz lu lk ld lf lb lw fd n q hn hq) (vx_cwSW 3 (dr_words hts _) gL_law_L_sold rfl rfl rfl (by decide +kernel) ⟨Nat.le_of_ble_eq_true rfl, Nat.le_of_ble_eq_true rfl⟩) ⟨yk_blind, yk_pre hPc (yk_Kd hK) hDc⟩ rfl rfl hl.1 rfl (lv_room (Nat.le_of_ble_eq_true rfl)) dL_law_977 ⟨(by show _ ≤ 1065; omega), (by show _ ≤ 12181; omega)⟩) hS (fun q _ h => hFc q h) hFc (fun r u t9 H locs ht hvm hw hB hz1 hk1 hS => ?_)
    obtain ⟨z, fd1⟩ := u
    obtain ⟨rfl, hv1, hv2⟩ := hw
    dsimp only at hv1 hv2
    obtain ⟨hP1, -, hD1⟩ := hB
    rw [ht] at hP1
    obtain ⟨hP, hD⟩ := va_join (wr := MW b cI cZ cD mth sh mst ts mbi mpr mba (nI t) (nI n) it tu lk mus mud mfs mfb mbo mso mpc mne ++ [(o9, .inl (cJ, 1, .inr (.inl fo)))]) (w1 := XWD o8 a cI cZ cD sh sw ts bi it tu ne pr so lo (nI t) (nI n) lp lz lu lk ld lf lb lw fd1) hP hD [0, 1, 2, 3, 4, 5, 6, 7, 8, 9, 10, 11, 12, 13, 14, 15, 16, 34] [17, 18, 19, 20, 21, 22, 23, 24, 25, 26, 27, 28, 29, 30, 31, 32, 33] rfl rfl (by decide) (by decide) hk1 hFc hP1 hD1
    have hP : va_P D vwCl (WL o9 o8 cJ a b cI cZ cD sh sw ts bi it tu ne pr so lo (nI t) (nI n) lp lz lu lk ld lf lb lw mth sh mst ts mbi mpr mba (nI t) (nI n) it tu lk mus mud mfs mfb mbo mso mpc mne fo fd1) H := hP.sub [17, 18, 19, 20, 21, 22, 23, 24, 25, 26, 27, 28, 29, 30, 31, 32, 33, 0, 1, 2, 3, 4, 5, 6, 7, 8, 9, 10, 11, 12, 13, 14, 15, 16, 34] rfl
    have hD : va_D (fun q => s.heap.size ≤ q) (WL o9 o8 cJ a b cI cZ cD sh sw ts bi it tu ne pr so lo (nI t) (nI n) lp lz lu lk ld lf lb lw mth sh mst ts mbi mpr mba (nI t) (nI n) it tu lk mus mud mfs mfb mbo mso mpc mne fo fd1) := hD.sub [17, 18, 19, 20, 21, 22, 23, 24, 25, 26, 27, 28, 29, 30, 31, 32, 33, 0, 1, 2, 3, 4, 5, 6, 7, 8, 9, 10, 11, 12, 13, 14, 15, 16, 34] (by decide) rfl
    refine lv_istore (lv' := [(6, .int 0), (0, .ref b9), (1, .ref (a 0)), (2, .ref (b 0)), (3, .ref o9), (4, .ref o8), (5, .int (nI (4 * i)))]) hx hb dL_law_980 hl (by decide) rfl (fun ls hl => ?_)
    refine lv_aload_n hx hb dL_law_982 rfl (lv_at hl 3 rfl) ?_
    refine lv_aload_n hx hb dL_law_983 rfl (lv_at hl 1 rfl) ?_
    refine lv_iload hx hb dL_law_984 (lv_at hl 6 rfl) ?_
    refine lv_iconst (v := nI 1) hx hb dL_law_986 (by decide) ?_
    refine lv_iadd hx hb dL_law_987 ?_
    refine xk_i (y := nI (4 * i + 1)) (nI_add _ _) ?_
    refine va_sld hx hb (X_drawn hX) hbl hbA hS (i := nI (4 * i + 1)) (vp_in_nI (by omega) (by omega)) dL_law_988 ?_
    refine xk_i (y := nI q) hx1.symm ?_
    have hPc : va_P D vwCl (MW b cI cZ cD mth sh mst ts mbi mpr mba (nI t) (nI n) it tu lk mus mud mfs mfb mbo mso mpc mne) H := hP.sub [17, 18, 19, 20, 21, 22, 23, 24, 25, 26, 27, 28, 29, 30, 31, 32] rfl
    have hDc : va_D (fun q => s.heap.size ≤ q) (MW b cI cZ cD mth sh mst ts mbi mpr mba (nI t) (nI n) it tu lk mus mud mfs mfb mbo mso mpc mne) := hD.sub [17, 18, 19, 20, 21, 22, 23, 24, 25, 26, 27, 28, 29, 30, 31, 32] (by decide) rfl
    have hFc := va_free (wc := MW b cI cZ cD mth sh mst ts mbi mpr mba (nI t) (nI n) it tu lk mus mud mfs mfb mbo mso mpc mne) hD hS hA [17, 18, 19, 20, 21, 22, 23, 24, 25, 26, 27, 28, 29, 30, 31, 32] rfl
    refine va_calld (va_runV (As := [.int (nI q)]) (rest := []) ⟨hx, hb, hml, xk_od hown, dr_words hts _⟩ (mX2_soldV l D cI cZ cD b _ mth sh mst ts mbi mpr mba (nI t) it tu lk mus mud mfs mfb mbo mso mpc mne n q hn hq) (cwV 1 (dr_words hts _) gL_law_X2_sold rfl rfl rfl (by decide +kernel) ⟨Nat.le_of_ble_eq_true rfl, Nat.le_of_ble_eq_true rfl⟩) ⟨xk_blind, va_recv (yk_Kd hK) hP (ci := 2) (q0 := 17) rfl rfl, xk_pre hPc ((yk_Kd hK).sub [0, 1, 2] rfl) hDc⟩ rfl rfl hl.1 rfl (lv_room (Nat.le_of_ble_eq_true rfl)) dL_law_989 ⟨(by show _ ≤ 1065; omega), (by show _ ≤ 12181; omega)⟩) hS (fun q _ h => hFc q h) hFc (fun r2 u t9 H locs ht hvm hw hB hz1 hk1 hS => ?_)
    obtain ⟨hP1, -, hD1⟩ := hB
    rw [ht] at hP1
    obtain ⟨hP, hD⟩ := va_join (wr := XW a cI cZ cD sh sw ts bi it tu ne pr so lo (nI t) (nI n) lp lz lu lk ld lf lb lw ++ [(o9, .inl (cJ, 1, .inr (.inl fo))), (o8, .inl (cD, 1, .inr (.inr (.inr (.inl fd1)))))]) (w1 := MW b cI cZ cD 0 sh mst ts mbi mpr mba (nI t) (nI n) it tu lk mus mud mfs mfb mbo mso mpc mne) hP hD [17, 18, 19, 20, 21, 22, 23, 24, 25, 26, 27, 28, 29, 30, 31, 32] [0, 1, 2, 3, 4, 5, 6, 7, 8, 9, 10, 11, 12, 13, 14, 15, 16, 33, 34] rfl rfl (by decide) (by decide) hk1 hFc hP1 hD1
    have hP : va_P D vwCl (WL o9 o8 cJ a b cI cZ cD sh sw ts bi it tu ne pr so lo (nI t) (nI n) lp lz lu lk ld lf lb lw 0 sh mst ts mbi mpr mba (nI t) (nI n) it tu lk mus mud mfs mfb mbo mso mpc mne fo fd1) H := hP.sub [0, 1, 2, 3, 4, 5, 6, 7, 8, 9, 10, 11, 12, 13, 14, 15, 16, 19, 20, 21, 22, 23, 24, 25, 26, 27, 28, 29, 30, 31, 32, 33, 34, 17, 18] rfl
    have hD : va_D (fun q => s.heap.size ≤ q) (WL o9 o8 cJ a b cI cZ cD sh sw ts bi it tu ne pr so lo (nI t) (nI n) lp lz lu lk ld lf lb lw 0 sh mst ts mbi mpr mba (nI t) (nI n) it tu lk mus mud mfs mfb mbo mso mpc mne fo fd1) := hD.sub [0, 1, 2, 3, 4, 5, 6, 7, 8, 9, 10, 11, 12, 13, 14, 15, 16, 19, 20, 21, 22, 23, 24, 25, 26, 27, 28, 29, 30, 31, 32, 33, 34, 17, 18] (by decide) rfl
    have hnz : nz (dt (fd1 0)) (dt r2) := by rw [hv1, hw]; exact Or.inl (dts_e hlz _)
    refine lv_dstore (lv' := [(7, .double r2), (6, .int 0), (0, .ref b9), (1, .ref (a 0)), (2, .ref (b 0)), (3, .ref o9), (4, .ref o8), (5, .int (nI (4 * i)))]) hx hb dL_law_992 hl (by decide) rfl (fun ls hl => ?_)
    refine lv_aload_n hx hb dL_law_994 rfl (lv_at hl 4 rfl) ?_
    have hPc : va_P D vwCl (MW b cI cZ cD 0 sh mst ts mbi mpr mba (nI t) (nI n) it tu lk mus mud mfs mfb mbo mso mpc mne) H := hP.sub [17, 18, 19, 20, 21, 22, 23, 24, 25, 26, 27, 28, 29, 30, 31, 32] rfl
    have hDc : va_D (fun q => s.heap.size ≤ q) (MW b cI cZ cD 0 sh mst ts mbi mpr mba (nI t) (nI n) it tu lk mus mud mfs mfb mbo mso mpc mne) := hD.sub [17, 18, 19, 20, 21, 22, 23, 24, 25, 26, 27, 28, 29, 30, 31, 32] (by decide) rfl
    have hFc := va_free (wc := MW b cI cZ cD 0 sh mst ts mbi mpr mba (nI t) (nI n) it tu lk mus mud mfs mfb mbo mso mpc mne) hD hS hA [17, 18, 19, 20, 21, 22, 23, 24, 25, 26, 27, 28, 29, 30, 31, 32] rfl
    refine va_calli (va_runV (As := []) (rest := []) ⟨hx, hb, hml, xk_od hown, dr_words hts _⟩ (mX2_thrown l D cI cZ cD b _ 0 sh mst ts mbi mpr mba (nI t) (nI n) it tu lk mus mud mfs mfb mbo mso mpc mne ) (cwV 0 (dr_words hts _) gL_law_X2_thrown rfl rfl rfl (by decide +kernel) ⟨Nat.le_of_ble_eq_true rfl, Nat.le_of_ble_eq_true rfl⟩) ⟨xk_blind, va_recv (yk_Kd hK) hP (ci := 2) (q0 := 17) rfl rfl, xk_pre hPc ((yk_Kd hK).sub [0, 1, 2] rfl) hDc⟩ rfl rfl hl.1 rfl (lv_room (Nat.le_of_ble_eq_true rfl)) dL_law_995 ⟨(by show _ ≤ 1065; omega), (by show _ ≤ 12181; omega)⟩) hS (fun q _ h => hFc q h) hFc (fun r8 u8 t9 H locs ht hvm hw hB hz1 hk1 hS => ?_)
    obtain ⟨hP1, -, hD1⟩ := hB
    rw [ht] at hP1
    obtain ⟨hP, hD⟩ := va_join (wr := XW a cI cZ cD sh sw ts bi it tu ne pr so lo (nI t) (nI n) lp lz lu lk ld lf lb lw ++ [(o9, .inl (cJ, 1, .inr (.inl fo))), (o8, .inl (cD, 1, .inr (.inr (.inr (.inl fd1)))))]) (w1 := MW b cI cZ cD 0 sh mst ts mbi mpr mba (nI t) (nI n) it tu lk mus mud mfs mfb mbo mso mpc mne) hP hD [17, 18, 19, 20, 21, 22, 23, 24, 25, 26, 27, 28, 29, 30, 31, 32] [0, 1, 2, 3, 4, 5, 6, 7, 8, 9, 10, 11, 12, 13, 14, 15, 16, 33, 34] rfl rfl (by decide) (by decide) hk1 hFc hP1 hD1
    have hP : va_P D vwCl (WL o9 o8 cJ a b cI cZ cD sh sw ts bi it tu ne pr so lo (nI t) (nI n) lp lz lu lk ld lf lb lw 0 sh mst ts mbi mpr mba (nI t) (nI n) it tu lk mus mud mfs mfb mbo mso mpc mne fo fd1) H := hP.sub [0, 1, 2, 3, 4, 5, 6, 7, 8, 9, 10, 11, 12, 13, 14, 15, 16, 19, 20, 21, 22, 23, 24, 25, 26, 27, 28, 29, 30, 31, 32, 33, 34, 17, 18] rfl
    have hD : va_D (fun q => s.heap.size ≤ q) (WL o9 o8 cJ a b cI cZ cD sh sw ts bi it tu ne pr so lo (nI t) (nI n) lp lz lu lk ld lf lb lw 0 sh mst ts mbi mpr mba (nI t) (nI n) it tu lk mus mud mfs mfb mbo mso mpc mne fo fd1) := hD.sub [0, 1, 2, 3, 4, 5, 6, 7, 8, 9, 10, 11, 12, 13, 14, 15, 16, 19, 20, 21, 22, 23, 24, 25, 26, 27, 28, 29, 30, 31, 32, 33, 34, 17, 18] (by decide) rfl
    refine xk_i (y := 0) hw ?_
    refine lv_iload hx hb dL_law_998 (lv_at hl 1 rfl) ?_
    refine lv_icmp_eq (tgt := 1005) hx hb dL_law_1000 (by decide) (fun c => ?_) (fun c => absurd rfl c)
    refine lv_iload hx hb dL_law_1005 (lv_at hl 1 rfl) ?_
    refine lv_if_ne (tgt := 1042) hx hb dL_law_1007 (by decide) (fun c => absurd rfl c) (fun c => ?_)
    refine lv_aload hx hb dL_law_1010 (lv_at hl 6 rfl) ?_
    refine lv_iconst (v := nI 0) hx hb dL_law_1012 (by decide) ?_
    refine xk_dald hx hb (yk_Kd hK) hP 34 2 rfl rfl (o := 0) (by decide) (by decide) dL_law_1013 ?_
    refine lv_dload hx hb dL_law_1014 (lv_at hl 0 rfl) ?_
    refine lv_dcmp hx hb dL_law_1016 ?_
    refine lv_if_eq (tgt := 1042) hx hb dL_law_1017 (by decide) (fun c => ?_) (fun c => ?_)
    · skip
      refine lv_goto (tgt := 1232) hx hb dL_law_1042 (by decide) ?_
      refine lv_iinc (v := nI (4 * (i + 1))) (lv' := [(5, .int (nI (4 * (i + 1)))), (7, .double r2), (6, .int 0), (0, .ref b9), (1, .ref (a 0)), (2, .ref (b 0)), (3, .ref o9), (4, .ref o8)]) hx hb dL_law_1232 hl (k := 7) rfl (iinc4 i) (by decide) rfl (fun ls hl => ?_)
      refine lv_goto (tgt := 28) hx hb dL_law_1235 (by decide) ?_
      refine W.widen (k := 35 + (i + 1)) (n := 3953 + 6 * (i + 1)) (by omega) (by omega) ?_
      exact next _ _ _ _ ⟨n, t, sh, sw, ts, bi, it, tu, ne, pr, so, lo, lp, lz, lu, lk, ld, lf, lb, lw, 0, mst, mbi, mpr, mba, mus, mud, mfs, mfb, mbo, mso, mpc, mne, fo, fd1, ⟨hn, ht5, hsm, hsw, hit, hbi, hpr, hso, hlu, hld, hlf, hlz9, hlb, hlw, hlz, hlp⟩, hP, hD, hS, hdl, lv_sub hl [3, 4, 5, 6, 7, 0] rfl⟩
    · skip
      have hnn := (dCmp_nz hnz).resolve_left (fun z => c ((cv_l_eq _).mpr z))
      refine lv_aload hx hb dL_law_1020 (lv_at hl 6 rfl) ?_
      refine lv_iconst (v := nI 0) hx hb dL_law_1022 (by decide) ?_
      refine xk_dald hx hb (yk_Kd hK) hP 34 2 rfl rfl (o := 0) (by decide) (by decide) dL_law_1023 ?_
      refine lv_aload hx hb dL_law_1024 (lv_at hl 6 rfl) ?_
      refine lv_iconst (v := nI 0) hx hb dL_law_1026 (by decide) ?_
      refine xk_dald hx hb (yk_Kd hK) hP 34 2 rfl rfl (o := 0) (by decide) (by decide) dL_law_1027 ?_
      refine lv_dcmp hx hb dL_law_1028 ?_
      refine lv_if_eq (tgt := 1040) hx hb dL_law_1029 (by decide) (fun c => absurd c (nan_ne hnn.1)) (fun c => ?_)
      refine lv_dload hx hb dL_law_1032 (lv_at hl 0 rfl) ?_
      refine lv_dload hx hb dL_law_1034 (lv_at hl 0 rfl) ?_
      refine lv_dcmp hx hb dL_law_1036 ?_
      refine lv_if_ne (tgt := 1042) hx hb dL_law_1037 (by decide) (fun c => ?_) (fun c => absurd c (nan_ne hnn.2))
      refine lv_goto (tgt := 1232) hx hb dL_law_1042 (by decide) ?_
      refine lv_iinc (v := nI (4 * (i + 1))) (lv' := [(5, .int (nI (4 * (i + 1)))), (7, .double r2), (6, .int 0), (0, .ref b9), (1, .ref (a 0)), (2, .ref (b 0)), (3, .ref o9), (4, .ref o8)]) hx hb dL_law_1232 hl (k := 7) rfl (iinc4 i) (by decide) rfl (fun ls hl => ?_)
      refine lv_goto (tgt := 28) hx hb dL_law_1235 (by decide) ?_
      refine W.widen (k := 35 + (i + 1)) (n := 3953 + 6 * (i + 1)) (by omega) (by omega) ?_
      exact next _ _ _ _ ⟨n, t, sh, sw, ts, bi, it, tu, ne, pr, so, lo, lp, lz, lu, lk, ld, lf, lb, lw, 0, mst, mbi, mpr, mba, mus, mud, mfs, mfb, mbo, mso, mpc, mne, fo, fd1, ⟨hn, ht5, hsm, hsw, hit, hbi, hpr, hso, hlu, hld, hlf, hlz9, hlb, hlw, hlz, hlp⟩, hP, hD, hS, hdl, lv_sub hl [3, 4, 5, 6, 7, 0] rfl⟩
  · skip
    refine lv_aload_n hx hb dL_law_968 rfl (lv_at hl 1 rfl) ?_
    refine lv_aload_n hx hb dL_law_969 rfl (lv_at hl 0 rfl) ?_
    refine lv_iload hx hb dL_law_970 (lv_at hl 5 rfl) ?_
    refine lv_iconst (v := nI 1) hx hb dL_law_972 (by decide) ?_
    refine lv_iadd hx hb dL_law_973 ?_
    refine xk_i (y := nI (4 * i + 1)) (nI_add _ _) ?_
    refine va_sld hx hb (X_drawn hX) hbl hbA hS (i := nI (4 * i + 1)) (vp_in_nI (by omega) (by omega)) dL_law_974 ?_
    refine xk_i (y := x1) hx1.symm ?_
    refine lv_aload hx hb dL_law_975 (lv_at hl 4 rfl) ?_
    have hPx : va_P D vwCl (XW a cI cZ cD sh sw ts bi it tu ne pr so lo (nI t) (nI n) lp lz lu lk ld lf lb lw) H := hP.sub [0, 1, 2, 3, 4, 5, 6, 7, 8, 9, 10, 11, 12, 13, 14, 15, 16] rfl
    have hDx : va_D (fun q => s.heap.size ≤ q) (XW a cI cZ cD sh sw ts bi it tu ne pr so lo (nI t) (nI n) lp lz lu lk ld lf lb lw) := hD.sub [0, 1, 2, 3, 4, 5, 6, 7, 8, 9, 10, 11, 12, 13, 14, 15, 16] (by decide) rfl
    refine va_calli (vx_runSW (As := [.ref (a 0), .int x1, .ref o8]) (rest := []) ⟨hx, hb, hml, xk_od hown, dr_words hts _⟩ (mL_soldX l hst D cI cZ cD a H sh sw ts bi it tu ne pr so lo (nI t) lp lz lu lk ld lf lb lw o8 n x1 hg) (vx_cwSW 3 (dr_words hts _) gL_law_L_sold rfl rfl rfl (by decide +kernel) ⟨Nat.le_of_ble_eq_true rfl, Nat.le_of_ble_eq_true rfl⟩) ⟨zq_blind, zq_pre hPx ((yk_Kd hK).sub [0, 1, 2] rfl) hDx hE.drawn hN.drawn hS hA⟩ rfl rfl hl.1 rfl (lv_room (Nat.le_of_ble_eq_true rfl)) dL_law_977 ⟨(by show _ ≤ 1065; omega), (by show _ ≤ 12181; omega)⟩) hS (fun q h1 h2 => absurd h2 (Nat.not_le.mpr h1)) (fun q h => Nat.le_trans hS.1 h) (fun r u t9 H9 locs ht hvm hwr hB hz1 hk1 hS => ?_)
    have hP : va_P D vwCl (WL o9 o8 cJ a b cI cZ cD sh sw ts bi it tu ne pr so lo (nI t) (nI n) lp lz lu lk ld lf lb lw mth sh mst ts mbi mpr mba (nI t) (nI n) it tu lk mus mud mfs mfb mbo mso mpc mne fo fd) H9 := hP.kept (fun k q hq => hk1 q.1 (hP k q hq).lt (Nat.not_le.mpr (hP k q hq).lt))
    generalize H9 = H at hP hS ⊢
    refine lv_istore (lv' := [(6, .int r), (0, .ref b9), (1, .ref (a 0)), (2, .ref (b 0)), (3, .ref o9), (4, .ref o8), (5, .int (nI (4 * i)))]) hx hb dL_law_980 hl (by decide) rfl (fun ls hl => ?_)
    refine lv_aload_n hx hb dL_law_982 rfl (lv_at hl 3 rfl) ?_
    refine lv_aload_n hx hb dL_law_983 rfl (lv_at hl 1 rfl) ?_
    refine lv_iload hx hb dL_law_984 (lv_at hl 6 rfl) ?_
    refine lv_iconst (v := nI 1) hx hb dL_law_986 (by decide) ?_
    refine lv_iadd hx hb dL_law_987 ?_
    refine xk_i (y := nI (4 * i + 1)) (nI_add _ _) ?_
    refine va_sld hx hb (X_drawn hX) hbl hbA hS (i := nI (4 * i + 1)) (vp_in_nI (by omega) (by omega)) dL_law_988 ?_
    refine xk_i (y := x1) hx1.symm ?_
    have hPc : va_P D vwCl (MW b cI cZ cD mth sh mst ts mbi mpr mba (nI t) (nI n) it tu lk mus mud mfs mfb mbo mso mpc mne) H := hP.sub [17, 18, 19, 20, 21, 22, 23, 24, 25, 26, 27, 28, 29, 30, 31, 32] rfl
    have hDc : va_D (fun q => s.heap.size ≤ q) (MW b cI cZ cD mth sh mst ts mbi mpr mba (nI t) (nI n) it tu lk mus mud mfs mfb mbo mso mpc mne) := hD.sub [17, 18, 19, 20, 21, 22, 23, 24, 25, 26, 27, 28, 29, 30, 31, 32] (by decide) rfl
    have hFc := va_free (wc := MW b cI cZ cD mth sh mst ts mbi mpr mba (nI t) (nI n) it tu lk mus mud mfs mfb mbo mso mpc mne) hD hS hA [17, 18, 19, 20, 21, 22, 23, 24, 25, 26, 27, 28, 29, 30, 31, 32] rfl
    refine va_calld (va_runV (As := [.int x1]) (rest := []) ⟨hx, hb, hml, xk_od hown, dr_words hts _⟩ (mX2_soldX l D cI cZ cD b _ mth sh mst ts mbi mpr mba (nI t) it tu lk mus mud mfs mfb mbo mso mpc mne n hn x1 hg) (cwV 1 (dr_words hts _) gL_law_X2_sold rfl rfl rfl (by decide +kernel) ⟨Nat.le_of_ble_eq_true rfl, Nat.le_of_ble_eq_true rfl⟩) ⟨xk_blind, va_recv (yk_Kd hK) hP (ci := 2) (q0 := 17) rfl rfl, xk_pre hPc ((yk_Kd hK).sub [0, 1, 2] rfl) hDc⟩ rfl rfl hl.1 rfl (lv_room (Nat.le_of_ble_eq_true rfl)) dL_law_989 ⟨(by show _ ≤ 1065; omega), (by show _ ≤ 12181; omega)⟩) hS (fun q _ h => hFc q h) hFc (fun r2 u t9 H locs ht hvm hw hB hz1 hk1 hS => ?_)
    obtain ⟨hP1, -, hD1⟩ := hB
    rw [ht] at hP1
    obtain ⟨hP, hD⟩ := va_join (wr := XW a cI cZ cD sh sw ts bi it tu ne pr so lo (nI t) (nI n) lp lz lu lk ld lf lb lw ++ [(o9, .inl (cJ, 1, .inr (.inl fo))), (o8, .inl (cD, 1, .inr (.inr (.inr (.inl fd)))))]) (w1 := MW b cI cZ cD 1 sh mst ts mbi mpr mba (nI t) (nI n) it tu lk mus mud mfs mfb mbo mso mpc mne) hP hD [17, 18, 19, 20, 21, 22, 23, 24, 25, 26, 27, 28, 29, 30, 31, 32] [0, 1, 2, 3, 4, 5, 6, 7, 8, 9, 10, 11, 12, 13, 14, 15, 16, 33, 34] rfl rfl (by decide) (by decide) hk1 hFc hP1 hD1
    have hP : va_P D vwCl (WL o9 o8 cJ a b cI cZ cD sh sw ts bi it tu ne pr so lo (nI t) (nI n) lp lz lu lk ld lf lb lw 1 sh mst ts mbi mpr mba (nI t) (nI n) it tu lk mus mud mfs mfb mbo mso mpc mne fo fd) H := hP.sub [0, 1, 2, 3, 4, 5, 6, 7, 8, 9, 10, 11, 12, 13, 14, 15, 16, 19, 20, 21, 22, 23, 24, 25, 26, 27, 28, 29, 30, 31, 32, 33, 34, 17, 18] rfl
    have hD : va_D (fun q => s.heap.size ≤ q) (WL o9 o8 cJ a b cI cZ cD sh sw ts bi it tu ne pr so lo (nI t) (nI n) lp lz lu lk ld lf lb lw 1 sh mst ts mbi mpr mba (nI t) (nI n) it tu lk mus mud mfs mfb mbo mso mpc mne fo fd) := hD.sub [0, 1, 2, 3, 4, 5, 6, 7, 8, 9, 10, 11, 12, 13, 14, 15, 16, 19, 20, 21, 22, 23, 24, 25, 26, 27, 28, 29, 30, 31, 32, 33, 34, 17, 18] (by decide) rfl
    refine lv_dstore (lv' := [(7, .double r2), (6, .int r), (0, .ref b9), (1, .ref (a 0)), (2, .ref (b 0)), (3, .ref o9), (4, .ref o8), (5, .int (nI (4 * i)))]) hx hb dL_law_992 hl (by decide) rfl (fun ls hl => ?_)
    have hur : 1 = r ∧ ¬ r = 0 := ⟨by rw [hwr], by rw [hwr]; decide⟩
    refine lv_aload_n hx hb dL_law_994 rfl (lv_at hl 4 rfl) ?_
    have hPc : va_P D vwCl (MW b cI cZ cD 1 sh mst ts mbi mpr mba (nI t) (nI n) it tu lk mus mud mfs mfb mbo mso mpc mne) H := hP.sub [17, 18, 19, 20, 21, 22, 23, 24, 25, 26, 27, 28, 29, 30, 31, 32] rfl
    have hDc : va_D (fun q => s.heap.size ≤ q) (MW b cI cZ cD 1 sh mst ts mbi mpr mba (nI t) (nI n) it tu lk mus mud mfs mfb mbo mso mpc mne) := hD.sub [17, 18, 19, 20, 21, 22, 23, 24, 25, 26, 27, 28, 29, 30, 31, 32] (by decide) rfl
    have hFc := va_free (wc := MW b cI cZ cD 1 sh mst ts mbi mpr mba (nI t) (nI n) it tu lk mus mud mfs mfb mbo mso mpc mne) hD hS hA [17, 18, 19, 20, 21, 22, 23, 24, 25, 26, 27, 28, 29, 30, 31, 32] rfl
    refine va_calli (va_runV (As := []) (rest := []) ⟨hx, hb, hml, xk_od hown, dr_words hts _⟩ (mX2_thrown l D cI cZ cD b _ 1 sh mst ts mbi mpr mba (nI t) (nI n) it tu lk mus mud mfs mfb mbo mso mpc mne ) (cwV 0 (dr_words hts _) gL_law_X2_thrown rfl rfl rfl (by decide +kernel) ⟨Nat.le_of_ble_eq_true rfl, Nat.le_of_ble_eq_true rfl⟩) ⟨xk_blind, va_recv (yk_Kd hK) hP (ci := 2) (q0 := 17) rfl rfl, xk_pre hPc ((yk_Kd hK).sub [0, 1, 2] rfl) hDc⟩ rfl rfl hl.1 rfl (lv_room (Nat.le_of_ble_eq_true rfl)) dL_law_995 ⟨(by show _ ≤ 1065; omega), (by show _ ≤ 12181; omega)⟩) hS (fun q _ h => hFc q h) hFc (fun r8 u8 t9 H locs ht hvm hw hB hz1 hk1 hS => ?_)
    obtain ⟨hP1, -, hD1⟩ := hB
    rw [ht] at hP1
    obtain ⟨hP, hD⟩ := va_join (wr := XW a cI cZ cD sh sw ts bi it tu ne pr so lo (nI t) (nI n) lp lz lu lk ld lf lb lw ++ [(o9, .inl (cJ, 1, .inr (.inl fo))), (o8, .inl (cD, 1, .inr (.inr (.inr (.inl fd)))))]) (w1 := MW b cI cZ cD 1 sh mst ts mbi mpr mba (nI t) (nI n) it tu lk mus mud mfs mfb mbo mso mpc mne) hP hD [17, 18, 19, 20, 21, 22, 23, 24, 25, 26, 27, 28, 29, 30, 31, 32] [0, 1, 2, 3, 4, 5, 6, 7, 8, 9, 10, 11, 12, 13, 14, 15, 16, 33, 34] rfl rfl (by decide) (by decide) hk1 hFc hP1 hD1
    have hP : va_P D vwCl (WL o9 o8 cJ a b cI cZ cD sh sw ts bi it tu ne pr so lo (nI t) (nI n) lp lz lu lk ld lf lb lw 1 sh mst ts mbi mpr mba (nI t) (nI n) it tu lk mus mud mfs mfb mbo mso mpc mne fo fd) H := hP.sub [0, 1, 2, 3, 4, 5, 6, 7, 8, 9, 10, 11, 12, 13, 14, 15, 16, 19, 20, 21, 22, 23, 24, 25, 26, 27, 28, 29, 30, 31, 32, 33, 34, 17, 18] rfl
    have hD : va_D (fun q => s.heap.size ≤ q) (WL o9 o8 cJ a b cI cZ cD sh sw ts bi it tu ne pr so lo (nI t) (nI n) lp lz lu lk ld lf lb lw 1 sh mst ts mbi mpr mba (nI t) (nI n) it tu lk mus mud mfs mfb mbo mso mpc mne fo fd) := hD.sub [0, 1, 2, 3, 4, 5, 6, 7, 8, 9, 10, 11, 12, 13, 14, 15, 16, 19, 20, 21, 22, 23, 24, 25, 26, 27, 28, 29, 30, 31, 32, 33, 34, 17, 18] (by decide) rfl
    refine xk_i (y := 1) hw ?_
    refine lv_iload hx hb dL_law_998 (lv_at hl 1 rfl) ?_
    refine lv_icmp_eq (tgt := 1005) hx hb dL_law_1000 (by decide) (fun c => ?_) (fun c => absurd hur.1 c)
    refine lv_iload hx hb dL_law_1005 (lv_at hl 1 rfl) ?_
    refine lv_if_ne (tgt := 1042) hx hb dL_law_1007 (by decide) (fun c => ?_) (fun c => absurd c hur.2)
    refine lv_goto (tgt := 1232) hx hb dL_law_1042 (by decide) ?_
    refine lv_iinc (v := nI (4 * (i + 1))) (lv' := [(5, .int (nI (4 * (i + 1)))), (7, .double r2), (6, .int r), (0, .ref b9), (1, .ref (a 0)), (2, .ref (b 0)), (3, .ref o9), (4, .ref o8)]) hx hb dL_law_1232 hl (k := 7) rfl (iinc4 i) (by decide) rfl (fun ls hl => ?_)
    refine lv_goto (tgt := 28) hx hb dL_law_1235 (by decide) ?_
    refine W.widen (k := 35 + (i + 1)) (n := 3953 + 6 * (i + 1)) (by omega) (by omega) ?_
    exact next _ _ _ _ ⟨n, t, sh, sw, ts, bi, it, tu, ne, pr, so, lo, lp, lz, lu, lk, ld, lf, lb, lw, 1, mst, mbi, mpr, mba, mus, mud, mfs, mfb, mbo, mso, mpc, mne, fo, fd, ⟨hn, ht5, hsm, hsw, hit, hbi, hpr, hso, hlu, hld, hlf, hlz9, hlb, hlw, hlz, hlp⟩, hP, hD, hS, hdl, lv_sub hl [3, 4, 5, 6, 7, 0] rfl⟩
set_option maxHeartbeats 4000000 in
set_option maxRecDepth 100000 in
theorem ls_14 {p : Program} {l : Launch} {e : Env} {s : State} {m : MethodId} {below : List Frame} {meth : Method} {c : Code} {b9 L : Nat} {xs : Nat → Int32} {D : va_G} {cI cZ cD cJ : ClassId} (C : LC l p s m meth c b9 L xs D cI cZ cD cJ) {a b : Nat → Nat} {o9 o8 i : Nat} (hi4 : 4 * i + 4 ≤ L) {H : Heap} {locs : List Loc} {ls : Array Slot} {d : Drawn} (hI : LInv s D cI cZ cD cJ a b b9 o9 o8 i H locs ls d) (next : ∀ (H' : Heap) (locs' : List Loc) (ls' : Array Slot) (d' : Drawn), LInv s D cI cZ cD cJ a b b9 o9 o8 (i + 1) H' locs' ls' d' → W p l e room_1 (s.setDrawn d') m #[Value.ref b9] below meth c H' locs' (35 + (i + 1)) (3953 + 6 * (i + 1)) (lw_Z below #[Value.ref b9] s) (F0 m 28 ls' [])) : W p l e room_1 (s.setDrawn d) m #[Value.ref b9] below meth c H locs (35 + i) (3953 + 6 * i) (lw_Z below #[Value.ref b9] s) (F0 m 1099 ls []) := by
  obtain ⟨hst, hL, C0, hE, hN, hK⟩ := C
  obtain ⟨hx, hb, hr, hml, hown, hts0, hX, hbl, hlocks, hgv⟩ := C0
  have hts : ∀ w ∈ wsL_law, w.before #[Value.ref b9] s = true := fun w h => hts0 w (wsL_law_in w h)
  obtain ⟨n, t, sh, sw, ts, bi, it, tu, ne, pr, so, lo, lp, lz, lu, lk, ld, lf, lb, lw, mth, mst, mbi, mpr, mba, mus, mud, mfs, mfb, mbo, mso, mpc, mne, fo, fd, ⟨hn, ht5, hsm, hsw, hit, hbi, hpr, hso, hlu, hld, hlf, hlz9, hlb, hlw, hlz, hlp⟩, hP, hD, hS, hdl, hl⟩ := hI
  have hA : ∀ q : Nat, s.heap.size ≤ q → (fun q => s.heap.size ≤ q) q := fun q h => h
  have hbA : ¬ (fun q => s.heap.size ≤ q) b9 := Nat.not_le.mpr hbl
  obtain ⟨x1, hx1⟩ : ∃ x, x = xs (nI (4 * i + 1)).toNatClampNeg := ⟨_, rfl⟩
  by_cases hg : inR x1 0 4
  · skip
    have g1 := hg
    obtain ⟨o, ho4, rfl⟩ := inR_nI (n := 4) (by decide) g1
    have ho : o < 5 := by omega
    refine lv_aload_n hx hb dL_law_1099 rfl (lv_at hl 1 rfl) ?_
    refine lv_aload_n hx hb dL_law_1100 rfl (lv_at hl 0 rfl) ?_
    refine lv_iload hx hb dL_law_1101 (lv_at hl 5 rfl) ?_
    refine lv_iconst (v := nI 1) hx hb dL_law_1103 (by decide) ?_
    refine lv_iadd hx hb dL_law_1104 ?_
    refine xk_i (y := nI (4 * i + 1)) (nI_add _ _) ?_
    refine va_sld hx hb (X_drawn hX) hbl hbA hS (i := nI (4 * i + 1)) (vp_in_nI (by omega) (by omega)) dL_law_1105 ?_
    refine xk_i (y := nI o) hx1.symm ?_
    refine lv_aload_n hx hb dL_law_1106 rfl (lv_at hl 3 rfl) ?_
    have hPc : va_P D vwCl (XWJ o9 cJ a cI cZ cD sh sw ts bi it tu ne pr so lo (nI t) (nI n) lp lz lu lk ld lf lb lw fo) H := hP.sub [0, 1, 2, 3, 4, 5, 6, 7, 8, 9, 10, 11, 12, 13, 14, 15, 16, 33] rfl
    have hDc : va_D (fun q => s.heap.size ≤ q) (XWJ o9 cJ a cI cZ cD sh sw ts bi it tu ne pr so lo (nI t) (nI n) lp lz lu lk ld lf lb lw fo) := hD.sub [0, 1, 2, 3, 4, 5, 6, 7, 8, 9, 10, 11, 12, 13, 14, 15, 16, 33] (by decide) rfl
    have hFc := va_free (wc := XWJ o9 cJ a cI cZ cD sh sw ts bi it tu ne pr so lo (nI t) (nI n) lp lz lu lk ld lf lb lw fo) hD hS hA [0, 1, 2, 3, 4, 5, 6, 7, 8, 9, 10, 11, 12, 13, 14, 15, 16, 33] rfl
    refine va_calli (vx_runSW (As := [.ref (a 0), .int (nI o), .ref o9]) (rest := []) ⟨hx, hb, hml, xk_od hown, dr_words hts _⟩ (mL_shedsV l D cI cZ cD cJ a o9 _ sh sw ts bi it tu ne pr so lo (nI t) (nI n) lp lz lu lk ld lf lb lw fo o ho) (vx_cwSW 3 (dr_words hts _) gL_law_L_sheds rfl rfl rfl (by decide +kernel) ⟨Nat.le_of_ble_eq_true rfl, Nat.le_of_ble_eq_true rfl⟩) ⟨yk_blind, yk_pre hPc (yk_Kd hK) hDc⟩ rfl rfl hl.1 rfl (lv_room (Nat.le_of_ble_eq_true rfl)) dL_law_1107 ⟨(by show _ ≤ 1065; omega), (by show _ ≤ 12181; omega)⟩) hS (fun q _ h => hFc q h) hFc (fun r u t9 H locs ht hvm hw hB hz1 hk1 hS => ?_)
    obtain ⟨z, fo1⟩ := u
    obtain ⟨rfl, hv1, hv2⟩ := hw
    dsimp only at hv1 hv2
    obtain ⟨hP1, -, hD1⟩ := hB
    rw [ht] at hP1
    obtain ⟨hP, hD⟩ := va_join (wr := MW b cI cZ cD mth sh mst ts mbi mpr mba (nI t) (nI n) it tu lk mus mud mfs mfb mbo mso mpc mne ++ [(o8, .inl (cD, 1, .inr (.inr (.inr (.inl fd)))))]) (w1 := XWJ o9 cJ a cI cZ cD sh sw ts bi it tu ne pr so lo (nI t) (nI n) lp lz lu lk ld lf lb lw fo1) hP hD [0, 1, 2, 3, 4, 5, 6, 7, 8, 9, 10, 11, 12, 13, 14, 15, 16, 33] [17, 18, 19, 20, 21, 22, 23, 24, 25, 26, 27, 28, 29, 30, 31, 32, 34] rfl rfl (by decide) (by decide) hk1 hFc hP1 hD1
    have hP : va_P D vwCl (WL o9 o8 cJ a b cI cZ cD sh sw ts bi it tu ne pr so lo (nI t) (nI n) lp lz lu lk ld lf lb lw mth sh mst ts mbi mpr mba (nI t) (nI n) it tu lk mus mud mfs mfb mbo mso mpc mne fo1 fd) H := hP.sub [17, 18, 19, 20, 21, 22, 23, 24, 25, 26, 27, 28, 29, 30, 31, 32, 33, 0, 1, 2, 3, 4, 5, 6, 7, 8, 9, 10, 11, 12, 13, 14, 15, 34, 16] rfl
    have hD : va_D (fun q => s.heap.size ≤ q) (WL o9 o8 cJ a b cI cZ cD sh sw ts bi it tu ne pr so lo (nI t) (nI n) lp lz lu lk ld lf lb lw mth sh mst ts mbi mpr mba (nI t) (nI n) it tu lk mus mud mfs mfb mbo mso mpc mne fo1 fd) := hD.sub [17, 18, 19, 20, 21, 22, 23, 24, 25, 26, 27, 28, 29, 30, 31, 32, 33, 0, 1, 2, 3, 4, 5, 6, 7, 8, 9, 10, 11, 12, 13, 14, 15, 34, 16] (by decide) rfl
    refine lv_istore (lv' := [(6, .int 0), (0, .ref b9), (1, .ref (a 0)), (2, .ref (b 0)), (3, .ref o9), (4, .ref o8), (5, .int (nI (4 * i)))]) hx hb dL_law_1110 hl (by decide) rfl (fun ls hl => ?_)
    refine lv_aload_n hx hb dL_law_1112 rfl (lv_at hl 3 rfl) ?_
    refine lv_aload_n hx hb dL_law_1113 rfl (lv_at hl 1 rfl) ?_
    refine lv_iload hx hb dL_law_1114 (lv_at hl 6 rfl) ?_
    refine lv_iconst (v := nI 1) hx hb dL_law_1116 (by decide) ?_
    refine lv_iadd hx hb dL_law_1117 ?_
    refine xk_i (y := nI (4 * i + 1)) (nI_add _ _) ?_
    refine va_sld hx hb (X_drawn hX) hbl hbA hS (i := nI (4 * i + 1)) (vp_in_nI (by omega) (by omega)) dL_law_1118 ?_
    refine xk_i (y := nI o) hx1.symm ?_
    have hPc : va_P D vwCl (MW b cI cZ cD mth sh mst ts mbi mpr mba (nI t) (nI n) it tu lk mus mud mfs mfb mbo mso mpc mne) H := hP.sub [17, 18, 19, 20, 21, 22, 23, 24, 25, 26, 27, 28, 29, 30, 31, 32] rfl
    have hDc : va_D (fun q => s.heap.size ≤ q) (MW b cI cZ cD mth sh mst ts mbi mpr mba (nI t) (nI n) it tu lk mus mud mfs mfb mbo mso mpc mne) := hD.sub [17, 18, 19, 20, 21, 22, 23, 24, 25, 26, 27, 28, 29, 30, 31, 32] (by decide) rfl
    have hFc := va_free (wc := MW b cI cZ cD mth sh mst ts mbi mpr mba (nI t) (nI n) it tu lk mus mud mfs mfb mbo mso mpc mne) hD hS hA [17, 18, 19, 20, 21, 22, 23, 24, 25, 26, 27, 28, 29, 30, 31, 32] rfl
    refine va_calli (va_runV (As := [.int (nI o)]) (rest := []) ⟨hx, hb, hml, xk_od hown, dr_words hts _⟩ (mX2_shedsV l D cI cZ cD b _ mth sh mst ts mbi mpr mba (nI t) (nI n) it tu lk mus mud mfs mfb mbo mso mpc mne o ho) (cwV 1 (dr_words hts _) gL_law_X2_sheds rfl rfl rfl (by decide +kernel) ⟨Nat.le_of_ble_eq_true rfl, Nat.le_of_ble_eq_true rfl⟩) ⟨xk_blind, va_recv (yk_Kd hK) hP (ci := 2) (q0 := 17) rfl rfl, xk_pre hPc ((yk_Kd hK).sub [0, 1, 2] rfl) hDc⟩ rfl rfl hl.1 rfl (lv_room (Nat.le_of_ble_eq_true rfl)) dL_law_1119 ⟨(by show _ ≤ 1065; omega), (by show _ ≤ 12181; omega)⟩) hS (fun q _ h => hFc q h) hFc (fun r2 u t9 H locs ht hvm hw hB hz1 hk1 hS => ?_)
    obtain ⟨hP1, -, hD1⟩ := hB
    rw [ht] at hP1
    obtain ⟨hP, hD⟩ := va_join (wr := XW a cI cZ cD sh sw ts bi it tu ne pr so lo (nI t) (nI n) lp lz lu lk ld lf lb lw ++ [(o9, .inl (cJ, 1, .inr (.inl fo1))), (o8, .inl (cD, 1, .inr (.inr (.inr (.inl fd)))))]) (w1 := MW b cI cZ cD 0 sh mst ts mbi mpr mba (nI t) (nI n) it tu lk mus mud mfs mfb mbo mso mpc mne) hP hD [17, 18, 19, 20, 21, 22, 23, 24, 25, 26, 27, 28, 29, 30, 31, 32] [0, 1, 2, 3, 4, 5, 6, 7, 8, 9, 10, 11, 12, 13, 14, 15, 16, 33, 34] rfl rfl (by decide) (by decide) hk1 hFc hP1 hD1
    have hP : va_P D vwCl (WL o9 o8 cJ a b cI cZ cD sh sw ts bi it tu ne pr so lo (nI t) (nI n) lp lz lu lk ld lf lb lw 0 sh mst ts mbi mpr mba (nI t) (nI n) it tu lk mus mud mfs mfb mbo mso mpc mne fo1 fd) H := hP.sub [0, 1, 2, 3, 4, 5, 6, 7, 8, 9, 10, 11, 12, 13, 14, 15, 16, 19, 20, 21, 22, 23, 24, 25, 26, 27, 28, 29, 30, 31, 32, 33, 34, 17, 18] rfl
    have hD : va_D (fun q => s.heap.size ≤ q) (WL o9 o8 cJ a b cI cZ cD sh sw ts bi it tu ne pr so lo (nI t) (nI n) lp lz lu lk ld lf lb lw 0 sh mst ts mbi mpr mba (nI t) (nI n) it tu lk mus mud mfs mfb mbo mso mpc mne fo1 fd) := hD.sub [0, 1, 2, 3, 4, 5, 6, 7, 8, 9, 10, 11, 12, 13, 14, 15, 16, 19, 20, 21, 22, 23, 24, 25, 26, 27, 28, 29, 30, 31, 32, 33, 34, 17, 18] (by decide) rfl
    subst hw
    refine lv_istore (lv' := [(7, .int (ts o)), (6, .int 0), (0, .ref b9), (1, .ref (a 0)), (2, .ref (b 0)), (3, .ref o9), (4, .ref o8), (5, .int (nI (4 * i)))]) hx hb dL_law_1122 hl (by decide) rfl (fun ls hl => ?_)
    refine lv_aload_n hx hb dL_law_1124 rfl (lv_at hl 4 rfl) ?_
    have hPc : va_P D vwCl (MW b cI cZ cD 0 sh mst ts mbi mpr mba (nI t) (nI n) it tu lk mus mud mfs mfb mbo mso mpc mne) H := hP.sub [17, 18, 19, 20, 21, 22, 23, 24, 25, 26, 27, 28, 29, 30, 31, 32] rfl
    have hDc : va_D (fun q => s.heap.size ≤ q) (MW b cI cZ cD 0 sh mst ts mbi mpr mba (nI t) (nI n) it tu lk mus mud mfs mfb mbo mso mpc mne) := hD.sub [17, 18, 19, 20, 21, 22, 23, 24, 25, 26, 27, 28, 29, 30, 31, 32] (by decide) rfl
    have hFc := va_free (wc := MW b cI cZ cD 0 sh mst ts mbi mpr mba (nI t) (nI n) it tu lk mus mud mfs mfb mbo mso mpc mne) hD hS hA [17, 18, 19, 20, 21, 22, 23, 24, 25, 26, 27, 28, 29, 30, 31, 32] rfl
    refine va_calli (va_runV (As := []) (rest := []) ⟨hx, hb, hml, xk_od hown, dr_words hts _⟩ (mX2_thrown l D cI cZ cD b _ 0 sh mst ts mbi mpr mba (nI t) (nI n) it tu lk mus mud mfs mfb mbo mso mpc mne ) (cwV 0 (dr_words hts _) gL_law_X2_thrown rfl rfl rfl (by decide +kernel) ⟨Nat.le_of_ble_eq_true rfl, Nat.le_of_ble_eq_true rfl⟩) ⟨xk_blind, va_recv (yk_Kd hK) hP (ci := 2) (q0 := 17) rfl rfl, xk_pre hPc ((yk_Kd hK).sub [0, 1, 2] rfl) hDc⟩ rfl rfl hl.1 rfl (lv_room (Nat.le_of_ble_eq_true rfl)) dL_law_1125 ⟨(by show _ ≤ 1065; omega), (by show _ ≤ 12181; omega)⟩) hS (fun q _ h => hFc q h) hFc (fun r8 u8 t9 H locs ht hvm hw hB hz1 hk1 hS => ?_)
    obtain ⟨hP1, -, hD1⟩ := hB
    rw [ht] at hP1
    obtain ⟨hP, hD⟩ := va_join (wr := XW a cI cZ cD sh sw ts bi it tu ne pr so lo (nI t) (nI n) lp lz lu lk ld lf lb lw ++ [(o9, .inl (cJ, 1, .inr (.inl fo1))), (o8, .inl (cD, 1, .inr (.inr (.inr (.inl fd)))))]) (w1 := MW b cI cZ cD 0 sh mst ts mbi mpr mba (nI t) (nI n) it tu lk mus mud mfs mfb mbo mso mpc mne) hP hD [17, 18, 19, 20, 21, 22, 23, 24, 25, 26, 27, 28, 29, 30, 31, 32] [0, 1, 2, 3, 4, 5, 6, 7, 8, 9, 10, 11, 12, 13, 14, 15, 16, 33, 34] rfl rfl (by decide) (by decide) hk1 hFc hP1 hD1
    have hP : va_P D vwCl (WL o9 o8 cJ a b cI cZ cD sh sw ts bi it tu ne pr so lo (nI t) (nI n) lp lz lu lk ld lf lb lw 0 sh mst ts mbi mpr mba (nI t) (nI n) it tu lk mus mud mfs mfb mbo mso mpc mne fo1 fd) H := hP.sub [0, 1, 2, 3, 4, 5, 6, 7, 8, 9, 10, 11, 12, 13, 14, 15, 16, 19, 20, 21, 22, 23, 24, 25, 26, 27, 28, 29, 30, 31, 32, 33, 34, 17, 18] rfl
    have hD : va_D (fun q => s.heap.size ≤ q) (WL o9 o8 cJ a b cI cZ cD sh sw ts bi it tu ne pr so lo (nI t) (nI n) lp lz lu lk ld lf lb lw 0 sh mst ts mbi mpr mba (nI t) (nI n) it tu lk mus mud mfs mfb mbo mso mpc mne fo1 fd) := hD.sub [0, 1, 2, 3, 4, 5, 6, 7, 8, 9, 10, 11, 12, 13, 14, 15, 16, 19, 20, 21, 22, 23, 24, 25, 26, 27, 28, 29, 30, 31, 32, 33, 34, 17, 18] (by decide) rfl
    refine xk_i (y := 0) hw ?_
    refine lv_iload hx hb dL_law_1128 (lv_at hl 1 rfl) ?_
    refine lv_icmp_eq (tgt := 1135) hx hb dL_law_1130 (by decide) (fun c => ?_) (fun c => absurd rfl c)
    refine lv_iload hx hb dL_law_1135 (lv_at hl 1 rfl) ?_
    refine lv_if_ne (tgt := 1152) hx hb dL_law_1137 (by decide) (fun c => absurd rfl c) (fun c => ?_)
    refine lv_aload_n hx hb dL_law_1140 rfl (lv_at hl 5 rfl) ?_
    refine lv_iconst (v := nI 0) hx hb dL_law_1141 (by decide) ?_
    refine va_lald hx hb (yk_Kd hK) hP 33 3 rfl rfl (i := nI 0) (vp_in_nI (by decide) (by decide)) dL_law_1142 ?_
    refine xk_l (y := (ts o).toInt64) hv1 ?_
    refine lv_iload hx hb dL_law_1143 (lv_at hl 0 rfl) ?_
    refine lv_i2l (v := (ts o).toInt64) hx hb dL_law_1145 rfl ?_
    refine W.lcmp hx hb dL_law_1146 ?_
    refine xk_i (y := 0) (lcmp_self _) ?_
    refine lv_if_eq (tgt := 1152) hx hb dL_law_1147 (by decide) (fun c => ?_) (fun c => absurd rfl c)
    refine lv_goto (tgt := 1232) hx hb dL_law_1152 (by decide) ?_
    refine lv_iinc (v := nI (4 * (i + 1))) (lv' := [(5, .int (nI (4 * (i + 1)))), (7, .int (ts o)), (6, .int 0), (0, .ref b9), (1, .ref (a 0)), (2, .ref (b 0)), (3, .ref o9), (4, .ref o8)]) hx hb dL_law_1232 hl (k := 7) rfl (iinc4 i) (by decide) rfl (fun ls hl => ?_)
    refine lv_goto (tgt := 28) hx hb dL_law_1235 (by decide) ?_
    refine W.widen (k := 35 + (i + 1)) (n := 3953 + 6 * (i + 1)) (by omega) (by omega) ?_
    exact next _ _ _ _ ⟨n, t, sh, sw, ts, bi, it, tu, ne, pr, so, lo, lp, lz, lu, lk, ld, lf, lb, lw, 0, mst, mbi, mpr, mba, mus, mud, mfs, mfb, mbo, mso, mpc, mne, fo1, fd, ⟨hn, ht5, hsm, hsw, hit, hbi, hpr, hso, hlu, hld, hlf, hlz9, hlb, hlw, hlz, hlp⟩, hP, hD, hS, hdl, lv_sub hl [3, 4, 5, 6, 7, 0] rfl⟩
  · skip
    refine lv_aload_n hx hb dL_law_1099 rfl (lv_at hl 1 rfl) ?_
    refine lv_aload_n hx hb dL_law_1100 rfl (lv_at hl 0 rfl) ?_
    refine lv_iload hx hb dL_law_1101 (lv_at hl 5 rfl) ?_
    refine lv_iconst (v := nI 1) hx hb dL_law_1103 (by decide) ?_
    refine lv_iadd hx hb dL_law_1104 ?_
    refine xk_i (y := nI (4 * i + 1)) (nI_add _ _) ?_
    refine va_sld hx hb (X_drawn hX) hbl hbA hS (i := nI (4 * i + 1)) (vp_in_nI (by omega) (by omega)) dL_law_1105 ?_
    refine xk_i (y := x1) hx1.symm ?_
    refine lv_aload_n hx hb dL_law_1106 rfl (lv_at hl 3 rfl) ?_
    have hPx : va_P D vwCl (XW a cI cZ cD sh sw ts bi it tu ne pr so lo (nI t) (nI n) lp lz lu lk ld lf lb lw) H := hP.sub [0, 1, 2, 3, 4, 5, 6, 7, 8, 9, 10, 11, 12, 13, 14, 15, 16] rfl
    have hDx : va_D (fun q => s.heap.size ≤ q) (XW a cI cZ cD sh sw ts bi it tu ne pr so lo (nI t) (nI n) lp lz lu lk ld lf lb lw) := hD.sub [0, 1, 2, 3, 4, 5, 6, 7, 8, 9, 10, 11, 12, 13, 14, 15, 16] (by decide) rfl
    refine va_calli (vx_runSW (As := [.ref (a 0), .int x1, .ref o9]) (rest := []) ⟨hx, hb, hml, xk_od hown, dr_words hts _⟩ (mL_shedsX l hst D cI cZ cD a H sh sw ts bi it tu ne pr so lo (nI t) (nI n) lp lz lu lk ld lf lb lw o9 x1 hg) (vx_cwSW 3 (dr_words hts _) gL_law_L_sheds rfl rfl rfl (by decide +kernel) ⟨Nat.le_of_ble_eq_true rfl, Nat.le_of_ble_eq_true rfl⟩) ⟨zq_blind, zq_pre hPx ((yk_Kd hK).sub [0, 1, 2] rfl) hDx hE.drawn hN.drawn hS hA⟩ rfl rfl hl.1 rfl (lv_room (Nat.le_of_ble_eq_true rfl)) dL_law_1107 ⟨(by show _ ≤ 1065; omega), (by show _ ≤ 12181; omega)⟩) hS (fun q h1 h2 => absurd h2 (Nat.not_le.mpr h1)) (fun q h => Nat.le_trans hS.1 h) (fun r u t9 H9 locs ht hvm hwr hB hz1 hk1 hS => ?_)
    have hP : va_P D vwCl (WL o9 o8 cJ a b cI cZ cD sh sw ts bi it tu ne pr so lo (nI t) (nI n) lp lz lu lk ld lf lb lw mth sh mst ts mbi mpr mba (nI t) (nI n) it tu lk mus mud mfs mfb mbo mso mpc mne fo fd) H9 := hP.kept (fun k q hq => hk1 q.1 (hP k q hq).lt (Nat.not_le.mpr (hP k q hq).lt))
    generalize H9 = H at hP hS ⊢
    refine lv_istore (lv' := [(6, .int r), (0, .ref b9), (1, .ref (a 0)), (2, .ref (b 0)), (3, .ref o9), (4, .ref o8), (5, .int (nI (4 * i)))]) hx hb dL_law_1110 hl (by decide) rfl (fun ls hl => ?_)
    refine lv_aload_n hx hb dL_law_1112 rfl (lv_at hl 3 rfl) ?_
    refine lv_aload_n hx hb dL_law_1113 rfl (lv_at hl 1 rfl) ?_
    refine lv_iload hx hb dL_law_1114 (lv_at hl 6 rfl) ?_
    refine lv_iconst (v := nI 1) hx hb dL_law_1116 (by decide) ?_
    refine lv_iadd hx hb dL_law_1117 ?_
    refine xk_i (y := nI (4 * i + 1)) (nI_add _ _) ?_
    refine va_sld hx hb (X_drawn hX) hbl hbA hS (i := nI (4 * i + 1)) (vp_in_nI (by omega) (by omega)) dL_law_1118 ?_
    refine xk_i (y := x1) hx1.symm ?_
    have hPc : va_P D vwCl (MW b cI cZ cD mth sh mst ts mbi mpr mba (nI t) (nI n) it tu lk mus mud mfs mfb mbo mso mpc mne) H := hP.sub [17, 18, 19, 20, 21, 22, 23, 24, 25, 26, 27, 28, 29, 30, 31, 32] rfl
    have hDc : va_D (fun q => s.heap.size ≤ q) (MW b cI cZ cD mth sh mst ts mbi mpr mba (nI t) (nI n) it tu lk mus mud mfs mfb mbo mso mpc mne) := hD.sub [17, 18, 19, 20, 21, 22, 23, 24, 25, 26, 27, 28, 29, 30, 31, 32] (by decide) rfl
    have hFc := va_free (wc := MW b cI cZ cD mth sh mst ts mbi mpr mba (nI t) (nI n) it tu lk mus mud mfs mfb mbo mso mpc mne) hD hS hA [17, 18, 19, 20, 21, 22, 23, 24, 25, 26, 27, 28, 29, 30, 31, 32] rfl
    refine va_calli (va_runV (As := [.int x1]) (rest := []) ⟨hx, hb, hml, xk_od hown, dr_words hts _⟩ (mX2_shedsX l D cI cZ cD b _ mth sh mst ts mbi mpr mba (nI t) (nI n) it tu lk mus mud mfs mfb mbo mso mpc mne x1 hg) (cwV 1 (dr_words hts _) gL_law_X2_sheds rfl rfl rfl (by decide +kernel) ⟨Nat.le_of_ble_eq_true rfl, Nat.le_of_ble_eq_true rfl⟩) ⟨xk_blind, va_recv (yk_Kd hK) hP (ci := 2) (q0 := 17) rfl rfl, xk_pre hPc ((yk_Kd hK).sub [0, 1, 2] rfl) hDc⟩ rfl rfl hl.1 rfl (lv_room (Nat.le_of_ble_eq_true rfl)) dL_law_1119 ⟨(by show _ ≤ 1065; omega), (by show _ ≤ 12181; omega)⟩) hS (fun q _ h => hFc q h) hFc (fun r2 u t9 H locs ht hvm hw hB hz1 hk1 hS => ?_)
    obtain ⟨hP1, -, hD1⟩ := hB
    rw [ht] at hP1
    obtain ⟨hP, hD⟩ := va_join (wr := XW a cI cZ cD sh sw ts bi it tu ne pr so lo (nI t) (nI n) lp lz lu lk ld lf lb lw ++ [(o9, .inl (cJ, 1, .inr (.inl fo))), (o8, .inl (cD, 1, .inr (.inr (.inr (.inl fd)))))]) (w1 := MW b cI cZ cD 1 sh mst ts mbi mpr mba (nI t) (nI n) it tu lk mus mud mfs mfb mbo mso mpc mne) hP hD [17, 18, 19, 20, 21, 22, 23, 24, 25, 26, 27, 28, 29, 30, 31, 32] [0, 1, 2, 3, 4, 5, 6, 7, 8, 9, 10, 11, 12, 13, 14, 15, 16, 33, 34] rfl rfl (by decide) (by decide) hk1 hFc hP1 hD1
    have hP : va_P D vwCl (WL o9 o8 cJ a b cI cZ cD sh sw ts bi it tu ne pr so lo (nI t) (nI n) lp lz lu lk ld lf lb lw 1 sh mst ts mbi mpr mba (nI t) (nI n) it tu lk mus mud mfs mfb mbo mso mpc mne fo fd) H := hP.sub [0, 1, 2, 3, 4, 5, 6, 7, 8, 9, 10, 11, 12, 13, 14, 15, 16, 19, 20, 21, 22, 23, 24, 25, 26, 27, 28, 29, 30, 31, 32, 33, 34, 17, 18] rfl
    have hD : va_D (fun q => s.heap.size ≤ q) (WL o9 o8 cJ a b cI cZ cD sh sw ts bi it tu ne pr so lo (nI t) (nI n) lp lz lu lk ld lf lb lw 1 sh mst ts mbi mpr mba (nI t) (nI n) it tu lk mus mud mfs mfb mbo mso mpc mne fo fd) := hD.sub [0, 1, 2, 3, 4, 5, 6, 7, 8, 9, 10, 11, 12, 13, 14, 15, 16, 19, 20, 21, 22, 23, 24, 25, 26, 27, 28, 29, 30, 31, 32, 33, 34, 17, 18] (by decide) rfl
    refine lv_istore (lv' := [(7, .int r2), (6, .int r), (0, .ref b9), (1, .ref (a 0)), (2, .ref (b 0)), (3, .ref o9), (4, .ref o8), (5, .int (nI (4 * i)))]) hx hb dL_law_1122 hl (by decide) rfl (fun ls hl => ?_)
    have hur : 1 = r ∧ ¬ r = 0 := ⟨by rw [hwr], by rw [hwr]; decide⟩
    refine lv_aload_n hx hb dL_law_1124 rfl (lv_at hl 4 rfl) ?_
    have hPc : va_P D vwCl (MW b cI cZ cD 1 sh mst ts mbi mpr mba (nI t) (nI n) it tu lk mus mud mfs mfb mbo mso mpc mne) H := hP.sub [17, 18, 19, 20, 21, 22, 23, 24, 25, 26, 27, 28, 29, 30, 31, 32] rfl
    have hDc : va_D (fun q => s.heap.size ≤ q) (MW b cI cZ cD 1 sh mst ts mbi mpr mba (nI t) (nI n) it tu lk mus mud mfs mfb mbo mso mpc mne) := hD.sub [17, 18, 19, 20, 21, 22, 23, 24, 25, 26, 27, 28, 29, 30, 31, 32] (by decide) rfl
    have hFc := va_free (wc := MW b cI cZ cD 1 sh mst ts mbi mpr mba (nI t) (nI n) it tu lk mus mud mfs mfb mbo mso mpc mne) hD hS hA [17, 18, 19, 20, 21, 22, 23, 24, 25, 26, 27, 28, 29, 30, 31, 32] rfl
    refine va_calli (va_runV (As := []) (rest := []) ⟨hx, hb, hml, xk_od hown, dr_words hts _⟩ (mX2_thrown l D cI cZ cD b _ 1 sh mst ts mbi mpr mba (nI t) (nI n) it tu lk mus mud mfs mfb mbo mso mpc mne ) (cwV 0 (dr_words hts _) gL_law_X2_thrown rfl rfl rfl (by decide +kernel) ⟨Nat.le_of_ble_eq_true rfl, Nat.le_of_ble_eq_true rfl⟩) ⟨xk_blind, va_recv (yk_Kd hK) hP (ci := 2) (q0 := 17) rfl rfl, xk_pre hPc ((yk_Kd hK).sub [0, 1, 2] rfl) hDc⟩ rfl rfl hl.1 rfl (lv_room (Nat.le_of_ble_eq_true rfl)) dL_law_1125 ⟨(by show _ ≤ 1065; omega), (by show _ ≤ 12181; omega)⟩) hS (fun q _ h => hFc q h) hFc (fun r8 u8 t9 H locs ht hvm hw hB hz1 hk1 hS => ?_)
    obtain ⟨hP1, -, hD1⟩ := hB
    rw [ht] at hP1
    obtain ⟨hP, hD⟩ := va_join (wr := XW a cI cZ cD sh sw ts bi it tu ne pr so lo (nI t) (nI n) lp lz lu lk ld lf lb lw ++ [(o9, .inl (cJ, 1, .inr (.inl fo))), (o8, .inl (cD, 1, .inr (.inr (.inr (.inl fd)))))]) (w1 := MW b cI cZ cD 1 sh mst ts mbi mpr mba (nI t) (nI n) it tu lk mus mud mfs mfb mbo mso mpc mne) hP hD [17, 18, 19, 20, 21, 22, 23, 24, 25, 26, 27, 28, 29, 30, 31, 32] [0, 1, 2, 3, 4, 5, 6, 7, 8, 9, 10, 11, 12, 13, 14, 15, 16, 33, 34] rfl rfl (by decide) (by decide) hk1 hFc hP1 hD1
    have hP : va_P D vwCl (WL o9 o8 cJ a b cI cZ cD sh sw ts bi it tu ne pr so lo (nI t) (nI n) lp lz lu lk ld lf lb lw 1 sh mst ts mbi mpr mba (nI t) (nI n) it tu lk mus mud mfs mfb mbo mso mpc mne fo fd) H := hP.sub [0, 1, 2, 3, 4, 5, 6, 7, 8, 9, 10, 11, 12, 13, 14, 15, 16, 19, 20, 21, 22, 23, 24, 25, 26, 27, 28, 29, 30, 31, 32, 33, 34, 17, 18] rfl
    have hD : va_D (fun q => s.heap.size ≤ q) (WL o9 o8 cJ a b cI cZ cD sh sw ts bi it tu ne pr so lo (nI t) (nI n) lp lz lu lk ld lf lb lw 1 sh mst ts mbi mpr mba (nI t) (nI n) it tu lk mus mud mfs mfb mbo mso mpc mne fo fd) := hD.sub [0, 1, 2, 3, 4, 5, 6, 7, 8, 9, 10, 11, 12, 13, 14, 15, 16, 19, 20, 21, 22, 23, 24, 25, 26, 27, 28, 29, 30, 31, 32, 33, 34, 17, 18] (by decide) rfl
    refine xk_i (y := 1) hw ?_
    refine lv_iload hx hb dL_law_1128 (lv_at hl 1 rfl) ?_
    refine lv_icmp_eq (tgt := 1135) hx hb dL_law_1130 (by decide) (fun c => ?_) (fun c => absurd hur.1 c)
    refine lv_iload hx hb dL_law_1135 (lv_at hl 1 rfl) ?_
    refine lv_if_ne (tgt := 1152) hx hb dL_law_1137 (by decide) (fun c => ?_) (fun c => absurd c hur.2)
    refine lv_goto (tgt := 1232) hx hb dL_law_1152 (by decide) ?_
    refine lv_iinc (v := nI (4 * (i + 1))) (lv' := [(5, .int (nI (4 * (i + 1)))), (7, .int r2), (6, .int r), (0, .ref b9), (1, .ref (a 0)), (2, .ref (b 0)), (3, .ref o9), (4, .ref o8)]) hx hb dL_law_1232 hl (k := 7) rfl (iinc4 i) (by decide) rfl (fun ls hl => ?_)
    refine lv_goto (tgt := 28) hx hb dL_law_1235 (by decide) ?_
    refine W.widen (k := 35 + (i + 1)) (n := 3953 + 6 * (i + 1)) (by omega) (by omega) ?_
    exact next _ _ _ _ ⟨n, t, sh, sw, ts, bi, it, tu, ne, pr, so, lo, lp, lz, lu, lk, ld, lf, lb, lw, 1, mst, mbi, mpr, mba, mus, mud, mfs, mfb, mbo, mso, mpc, mne, fo, fd, ⟨hn, ht5, hsm, hsw, hit, hbi, hpr, hso, hlu, hld, hlf, hlz9, hlb, hlw, hlz, hlp⟩, hP, hD, hS, hdl, lv_sub hl [3, 4, 5, 6, 7, 0] rfl⟩
set_option maxHeartbeats 4000000 in
set_option maxRecDepth 100000 in
theorem ls_15 {p : Program} {l : Launch} {e : Env} {s : State} {m : MethodId} {below : List Frame} {meth : Method} {c : Code} {b9 L : Nat} {xs : Nat → Int32} {D : va_G} {cI cZ cD cJ : ClassId} (C : LC l p s m meth c b9 L xs D cI cZ cD cJ) {a b : Nat → Nat} {o9 o8 i : Nat} (hi4 : 4 * i + 4 ≤ L) {H : Heap} {locs : List Loc} {ls : Array Slot} {d : Drawn} (hI : LInv s D cI cZ cD cJ a b b9 o9 o8 i H locs ls d) (next : ∀ (H' : Heap) (locs' : List Loc) (ls' : Array Slot) (d' : Drawn), LInv s D cI cZ cD cJ a b b9 o9 o8 (i + 1) H' locs' ls' d' → W p l e room_1 (s.setDrawn d') m #[Value.ref b9] below meth c H' locs' (35 + (i + 1)) (3953 + 6 * (i + 1)) (lw_Z below #[Value.ref b9] s) (F0 m 28 ls' [])) : W p l e room_1 (s.setDrawn d) m #[Value.ref b9] below meth c H locs (35 + i) (3953 + 6 * i) (lw_Z below #[Value.ref b9] s) (F0 m 1155 ls []) := by
  obtain ⟨hst, hL, C0, hE, hN, hK⟩ := C
  obtain ⟨hx, hb, hr, hml, hown, hts0, hX, hbl, hlocks, hgv⟩ := C0
  have hts : ∀ w ∈ wsL_law, w.before #[Value.ref b9] s = true := fun w h => hts0 w (wsL_law_in w h)
  obtain ⟨n, t, sh, sw, ts, bi, it, tu, ne, pr, so, lo, lp, lz, lu, lk, ld, lf, lb, lw, mth, mst, mbi, mpr, mba, mus, mud, mfs, mfb, mbo, mso, mpc, mne, fo, fd, ⟨hn, ht5, hsm, hsw, hit, hbi, hpr, hso, hlu, hld, hlf, hlz9, hlb, hlw, hlz, hlp⟩, hP, hD, hS, hdl, hl⟩ := hI
  have hA : ∀ q : Nat, s.heap.size ≤ q → (fun q => s.heap.size ≤ q) q := fun q h => h
  have hbA : ¬ (fun q => s.heap.size ≤ q) b9 := Nat.not_le.mpr hbl
  obtain ⟨x1, hx1⟩ : ∃ x, x = xs (nI (4 * i + 1)).toNatClampNeg := ⟨_, rfl⟩
  by_cases hg : inR x1 0 4
  · skip
    have g1 := hg
    obtain ⟨o, ho4, rfl⟩ := inR_nI (n := 4) (by decide) g1
    have ho : o < 5 := by omega
    refine lv_aload_n hx hb dL_law_1155 rfl (lv_at hl 1 rfl) ?_
    refine lv_aload_n hx hb dL_law_1156 rfl (lv_at hl 0 rfl) ?_
    refine lv_iload hx hb dL_law_1157 (lv_at hl 5 rfl) ?_
    refine lv_iconst (v := nI 1) hx hb dL_law_1159 (by decide) ?_
    refine lv_iadd hx hb dL_law_1160 ?_
    refine xk_i (y := nI (4 * i + 1)) (nI_add _ _) ?_
    refine va_sld hx hb (X_drawn hX) hbl hbA hS (i := nI (4 * i + 1)) (vp_in_nI (by omega) (by omega)) dL_law_1161 ?_
    refine xk_i (y := nI o) hx1.symm ?_
    refine lv_aload hx hb dL_law_1162 (lv_at hl 4 rfl) ?_
    have hPc : va_P D vwCl (XWD o8 a cI cZ cD sh sw ts bi it tu ne pr so lo (nI t) (nI n) lp lz lu lk ld lf lb lw fd) H := hP.sub [0, 1, 2, 3, 4, 5, 6, 7, 8, 9, 10, 11, 12, 13, 14, 15, 16, 34] rfl
    have hDc : va_D (fun q => s.heap.size ≤ q) (XWD o8 a cI cZ cD sh sw ts bi it tu ne pr so lo (nI t) (nI n) lp lz lu lk ld lf lb lw fd) := hD.sub [0, 1, 2, 3, 4, 5, 6, 7, 8, 9, 10, 11, 12, 13, 14, 15, 16, 34] (by decide) rfl
    have hFc := va_free (wc := XWD o8 a cI cZ cD sh sw ts bi it tu ne pr so lo (nI t) (nI n) lp lz lu lk ld lf lb lw fd) hD hS hA [0, 1, 2, 3, 4, 5, 6, 7, 8, 9, 10, 11, 12, 13, 14, 15, 16, 34] rfl
    refine va_calli (vx_runSW (As := [.ref (a 0), .int (nI o), .ref o8]) (rest := []) ⟨hx, hb, hml, xk_od hown, dr_words hts _⟩ (mL_billV l D cI cZ cD cJ a o8 _ sh sw ts bi it tu ne pr so lo (nI t) (nI n) lp lz lu lk ld lf lb lw fd o ho) (vx_cwSW 3 (dr_words hts _) gL_law_L_bill rfl rfl rfl (by decide +kernel) ⟨Nat.le_of_ble_eq_true rfl, Nat.le_of_ble_eq_true rfl⟩) ⟨yk_blind, yk_pre hPc (yk_Kd hK) hDc⟩ rfl rfl hl.1 rfl (lv_room (Nat.le_of_ble_eq_true rfl)) dL_law_1164 ⟨(by show _ ≤ 1065; omega), (by show _ ≤ 12181; omega)⟩) hS (fun q _ h => hFc q h) hFc (fun r u t9 H locs ht hvm hw hB hz1 hk1 hS => ?_)
    obtain ⟨z, fd1⟩ := u
    obtain ⟨rfl, hv1, hv2⟩ := hw
    dsimp only at hv1 hv2
    obtain ⟨hP1, -, hD1⟩ := hB
    rw [ht] at hP1
    obtain ⟨hP, hD⟩ := va_join (wr := MW b cI cZ cD mth sh mst ts mbi mpr mba (nI t) (nI n) it tu lk mus mud mfs mfb mbo mso mpc mne ++ [(o9, .inl (cJ, 1, .inr (.inl fo)))]) (w1 := XWD o8 a cI cZ cD sh sw ts bi it tu ne pr so lo (nI t) (nI n) lp lz lu lk ld lf lb lw fd1) hP hD [0, 1, 2, 3, 4, 5, 6, 7, 8, 9, 10, 11, 12, 13, 14, 15, 16, 34] [17, 18, 19, 20, 21, 22, 23, 24, 25, 26, 27, 28, 29, 30, 31, 32, 33] rfl rfl (by decide) (by decide) hk1 hFc hP1 hD1
    have hP : va_P D vwCl (WL o9 o8 cJ a b cI cZ cD sh sw ts bi it tu ne pr so lo (nI t) (nI n) lp lz lu lk ld lf lb lw mth sh mst ts mbi mpr mba (nI t) (nI n) it tu lk mus mud mfs mfb mbo mso mpc mne fo fd1) H := hP.sub [17, 18, 19, 20, 21, 22, 23, 24, 25, 26, 27, 28, 29, 30, 31, 32, 33, 0, 1, 2, 3, 4, 5, 6, 7, 8, 9, 10, 11, 12, 13, 14, 15, 16, 34] rfl
    have hD : va_D (fun q => s.heap.size ≤ q) (WL o9 o8 cJ a b cI cZ cD sh sw ts bi it tu ne pr so lo (nI t) (nI n) lp lz lu lk ld lf lb lw mth sh mst ts mbi mpr mba (nI t) (nI n) it tu lk mus mud mfs mfb mbo mso mpc mne fo fd1) := hD.sub [17, 18, 19, 20, 21, 22, 23, 24, 25, 26, 27, 28, 29, 30, 31, 32, 33, 0, 1, 2, 3, 4, 5, 6, 7, 8, 9, 10, 11, 12, 13, 14, 15, 16, 34] (by decide) rfl
    refine lv_istore (lv' := [(6, .int 0), (0, .ref b9), (1, .ref (a 0)), (2, .ref (b 0)), (3, .ref o9), (4, .ref o8), (5, .int (nI (4 * i)))]) hx hb dL_law_1167 hl (by decide) rfl (fun ls hl => ?_)
    refine lv_aload_n hx hb dL_law_1169 rfl (lv_at hl 3 rfl) ?_
    refine lv_aload_n hx hb dL_law_1170 rfl (lv_at hl 1 rfl) ?_
    refine lv_iload hx hb dL_law_1171 (lv_at hl 6 rfl) ?_
    refine lv_iconst (v := nI 1) hx hb dL_law_1173 (by decide) ?_
    refine lv_iadd hx hb dL_law_1174 ?_
    refine xk_i (y := nI (4 * i + 1)) (nI_add _ _) ?_
    refine va_sld hx hb (X_drawn hX) hbl hbA hS (i := nI (4 * i + 1)) (vp_in_nI (by omega) (by omega)) dL_law_1175 ?_
    refine xk_i (y := nI o) hx1.symm ?_
    have hPc : va_P D vwCl (MW b cI cZ cD mth sh mst ts mbi mpr mba (nI t) (nI n) it tu lk mus mud mfs mfb mbo mso mpc mne) H := hP.sub [17, 18, 19, 20, 21, 22, 23, 24, 25, 26, 27, 28, 29, 30, 31, 32] rfl
    have hDc : va_D (fun q => s.heap.size ≤ q) (MW b cI cZ cD mth sh mst ts mbi mpr mba (nI t) (nI n) it tu lk mus mud mfs mfb mbo mso mpc mne) := hD.sub [17, 18, 19, 20, 21, 22, 23, 24, 25, 26, 27, 28, 29, 30, 31, 32] (by decide) rfl
    have hFc := va_free (wc := MW b cI cZ cD mth sh mst ts mbi mpr mba (nI t) (nI n) it tu lk mus mud mfs mfb mbo mso mpc mne) hD hS hA [17, 18, 19, 20, 21, 22, 23, 24, 25, 26, 27, 28, 29, 30, 31, 32] rfl
    refine va_calld (va_runV (As := [.int (nI o)]) (rest := []) ⟨hx, hb, hml, xk_od hown, dr_words hts _⟩ (mX2_billV l D cI cZ cD b _ mth sh mst ts mbi mpr mba (nI t) (nI n) it tu lk mus mud mfs mfb mbo mso mpc mne o ho) (cwV 1 (dr_words hts _) gL_law_X2_bill rfl rfl rfl (by decide +kernel) ⟨Nat.le_of_ble_eq_true rfl, Nat.le_of_ble_eq_true rfl⟩) ⟨xk_blind, va_recv (yk_Kd hK) hP (ci := 2) (q0 := 17) rfl rfl, xk_pre hPc ((yk_Kd hK).sub [0, 1, 2] rfl) hDc⟩ rfl rfl hl.1 rfl (lv_room (Nat.le_of_ble_eq_true rfl)) dL_law_1176 ⟨(by show _ ≤ 1065; omega), (by show _ ≤ 12181; omega)⟩) hS (fun q _ h => hFc q h) hFc (fun r2 u t9 H locs ht hvm hw hB hz1 hk1 hS => ?_)
    obtain ⟨hP1, -, hD1⟩ := hB
    rw [ht] at hP1
    obtain ⟨hP, hD⟩ := va_join (wr := XW a cI cZ cD sh sw ts bi it tu ne pr so lo (nI t) (nI n) lp lz lu lk ld lf lb lw ++ [(o9, .inl (cJ, 1, .inr (.inl fo))), (o8, .inl (cD, 1, .inr (.inr (.inr (.inl fd1)))))]) (w1 := MW b cI cZ cD 0 sh mst ts mbi mpr mba (nI t) (nI n) it tu lk mus mud mfs mfb mbo mso mpc mne) hP hD [17, 18, 19, 20, 21, 22, 23, 24, 25, 26, 27, 28, 29, 30, 31, 32] [0, 1, 2, 3, 4, 5, 6, 7, 8, 9, 10, 11, 12, 13, 14, 15, 16, 33, 34] rfl rfl (by decide) (by decide) hk1 hFc hP1 hD1
    have hP : va_P D vwCl (WL o9 o8 cJ a b cI cZ cD sh sw ts bi it tu ne pr so lo (nI t) (nI n) lp lz lu lk ld lf lb lw 0 sh mst ts mbi mpr mba (nI t) (nI n) it tu lk mus mud mfs mfb mbo mso mpc mne fo fd1) H := hP.sub [0, 1, 2, 3, 4, 5, 6, 7, 8, 9, 10, 11, 12, 13, 14, 15, 16, 19, 20, 21, 22, 23, 24, 25, 26, 27, 28, 29, 30, 31, 32, 33, 34, 17, 18] rfl
    have hD : va_D (fun q => s.heap.size ≤ q) (WL o9 o8 cJ a b cI cZ cD sh sw ts bi it tu ne pr so lo (nI t) (nI n) lp lz lu lk ld lf lb lw 0 sh mst ts mbi mpr mba (nI t) (nI n) it tu lk mus mud mfs mfb mbo mso mpc mne fo fd1) := hD.sub [0, 1, 2, 3, 4, 5, 6, 7, 8, 9, 10, 11, 12, 13, 14, 15, 16, 19, 20, 21, 22, 23, 24, 25, 26, 27, 28, 29, 30, 31, 32, 33, 34, 17, 18] (by decide) rfl
    have hnz : nz (dt (fd1 0)) (dt r2) := by rw [hv1, hw]; exact Or.inl (dts_e hbi _)
    refine lv_dstore (lv' := [(7, .double r2), (6, .int 0), (0, .ref b9), (1, .ref (a 0)), (2, .ref (b 0)), (3, .ref o9), (4, .ref o8), (5, .int (nI (4 * i)))]) hx hb dL_law_1179 hl (by decide) rfl (fun ls hl => ?_)
    refine lv_aload_n hx hb dL_law_1181 rfl (lv_at hl 4 rfl) ?_
    have hPc : va_P D vwCl (MW b cI cZ cD 0 sh mst ts mbi mpr mba (nI t) (nI n) it tu lk mus mud mfs mfb mbo mso mpc mne) H := hP.sub [17, 18, 19, 20, 21, 22, 23, 24, 25, 26, 27, 28, 29, 30, 31, 32] rfl
    have hDc : va_D (fun q => s.heap.size ≤ q) (MW b cI cZ cD 0 sh mst ts mbi mpr mba (nI t) (nI n) it tu lk mus mud mfs mfb mbo mso mpc mne) := hD.sub [17, 18, 19, 20, 21, 22, 23, 24, 25, 26, 27, 28, 29, 30, 31, 32] (by decide) rfl
    have hFc := va_free (wc := MW b cI cZ cD 0 sh mst ts mbi mpr mba (nI t) (nI n) it tu lk mus mud mfs mfb mbo mso mpc mne) hD hS hA [17, 18, 19, 20, 21, 22, 23, 24, 25, 26, 27, 28, 29, 30, 31, 32] rfl
    refine va_calli (va_runV (As := []) (rest := []) ⟨hx, hb, hml, xk_od hown, dr_words hts _⟩ (mX2_thrown l D cI cZ cD b _ 0 sh mst ts mbi mpr mba (nI t) (nI n) it tu lk mus mud mfs mfb mbo mso mpc mne ) (cwV 0 (dr_words hts _) gL_law_X2_thrown rfl rfl rfl (by decide +kernel) ⟨Nat.le_of_ble_eq_true rfl, Nat.le_of_ble_eq_true rfl⟩) ⟨xk_blind, va_recv (yk_Kd hK) hP (ci := 2) (q0 := 17) rfl rfl, xk_pre hPc ((yk_Kd hK).sub [0, 1, 2] rfl) hDc⟩ rfl rfl hl.1 rfl (lv_room (Nat.le_of_ble_eq_true rfl)) dL_law_1182 ⟨(by show _ ≤ 1065; omega), (by show _ ≤ 12181; omega)⟩) hS (fun q _ h => hFc q h) hFc (fun r8 u8 t9 H locs ht hvm hw hB hz1 hk1 hS => ?_)
    obtain ⟨hP1, -, hD1⟩ := hB
    rw [ht] at hP1
    obtain ⟨hP, hD⟩ := va_join (wr := XW a cI cZ cD sh sw ts bi it tu ne pr so lo (nI t) (nI n) lp lz lu lk ld lf lb lw ++ [(o9, .inl (cJ, 1, .inr (.inl fo))), (o8, .inl (cD, 1, .inr (.inr (.inr (.inl fd1)))))]) (w1 := MW b cI cZ cD 0 sh mst ts mbi mpr mba (nI t) (nI n) it tu lk mus mud mfs mfb mbo mso mpc mne) hP hD [17, 18, 19, 20, 21, 22, 23, 24, 25, 26, 27, 28, 29, 30, 31, 32] [0, 1, 2, 3, 4, 5, 6, 7, 8, 9, 10, 11, 12, 13, 14, 15, 16, 33, 34] rfl rfl (by decide) (by decide) hk1 hFc hP1 hD1
    have hP : va_P D vwCl (WL o9 o8 cJ a b cI cZ cD sh sw ts bi it tu ne pr so lo (nI t) (nI n) lp lz lu lk ld lf lb lw 0 sh mst ts mbi mpr mba (nI t) (nI n) it tu lk mus mud mfs mfb mbo mso mpc mne fo fd1) H := hP.sub [0, 1, 2, 3, 4, 5, 6, 7, 8, 9, 10, 11, 12, 13, 14, 15, 16, 19, 20, 21, 22, 23, 24, 25, 26, 27, 28, 29, 30, 31, 32, 33, 34, 17, 18] rfl
    have hD : va_D (fun q => s.heap.size ≤ q) (WL o9 o8 cJ a b cI cZ cD sh sw ts bi it tu ne pr so lo (nI t) (nI n) lp lz lu lk ld lf lb lw 0 sh mst ts mbi mpr mba (nI t) (nI n) it tu lk mus mud mfs mfb mbo mso mpc mne fo fd1) := hD.sub [0, 1, 2, 3, 4, 5, 6, 7, 8, 9, 10, 11, 12, 13, 14, 15, 16, 19, 20, 21, 22, 23, 24, 25, 26, 27, 28, 29, 30, 31, 32, 33, 34, 17, 18] (by decide) rfl
    refine xk_i (y := 0) hw ?_
    refine lv_iload hx hb dL_law_1185 (lv_at hl 1 rfl) ?_
    refine lv_icmp_eq (tgt := 1192) hx hb dL_law_1187 (by decide) (fun c => ?_) (fun c => absurd rfl c)
    refine lv_iload hx hb dL_law_1192 (lv_at hl 1 rfl) ?_
    refine lv_if_ne (tgt := 1229) hx hb dL_law_1194 (by decide) (fun c => absurd rfl c) (fun c => ?_)
    refine lv_aload hx hb dL_law_1197 (lv_at hl 6 rfl) ?_
    refine lv_iconst (v := nI 0) hx hb dL_law_1199 (by decide) ?_
    refine xk_dald hx hb (yk_Kd hK) hP 34 2 rfl rfl (o := 0) (by decide) (by decide) dL_law_1200 ?_
    refine lv_dload hx hb dL_law_1201 (lv_at hl 0 rfl) ?_
    refine lv_dcmp hx hb dL_law_1203 ?_
    refine lv_if_eq (tgt := 1229) hx hb dL_law_1204 (by decide) (fun c => ?_) (fun c => ?_)
    · skip
      refine lv_goto (tgt := 1232) hx hb dL_law_1229 (by decide) ?_
      refine lv_iinc (v := nI (4 * (i + 1))) (lv' := [(5, .int (nI (4 * (i + 1)))), (7, .double r2), (6, .int 0), (0, .ref b9), (1, .ref (a 0)), (2, .ref (b 0)), (3, .ref o9), (4, .ref o8)]) hx hb dL_law_1232 hl (k := 7) rfl (iinc4 i) (by decide) rfl (fun ls hl => ?_)
      refine lv_goto (tgt := 28) hx hb dL_law_1235 (by decide) ?_
      refine W.widen (k := 35 + (i + 1)) (n := 3953 + 6 * (i + 1)) (by omega) (by omega) ?_
      exact next _ _ _ _ ⟨n, t, sh, sw, ts, bi, it, tu, ne, pr, so, lo, lp, lz, lu, lk, ld, lf, lb, lw, 0, mst, mbi, mpr, mba, mus, mud, mfs, mfb, mbo, mso, mpc, mne, fo, fd1, ⟨hn, ht5, hsm, hsw, hit, hbi, hpr, hso, hlu, hld, hlf, hlz9, hlb, hlw, hlz, hlp⟩, hP, hD, hS, hdl, lv_sub hl [3, 4, 5, 6, 7, 0] rfl⟩
    · skip
      have hnn := (dCmp_nz hnz).resolve_left (fun z => c ((cv_l_eq _).mpr z))
      refine lv_aload hx hb dL_law_1207 (lv_at hl 6 rfl) ?_
      refine lv_iconst (v := nI 0) hx hb dL_law_1209 (by decide) ?_
      refine xk_dald hx hb (yk_Kd hK) hP 34 2 rfl rfl (o := 0) (by decide) (by decide) dL_law_1210 ?_
      refine lv_aload hx hb dL_law_1211 (lv_at hl 6 rfl) ?_
      refine lv_iconst (v := nI 0) hx hb dL_law_1213 (by decide) ?_
      refine xk_dald hx hb (yk_Kd hK) hP 34 2 rfl rfl (o := 0) (by decide) (by decide) dL_law_1214 ?_
      refine lv_dcmp hx hb dL_law_1215 ?_
      refine lv_if_eq (tgt := 1227) hx hb dL_law_1216 (by decide) (fun c => absurd c (nan_ne hnn.1)) (fun c => ?_)
      refine lv_dload hx hb dL_law_1219 (lv_at hl 0 rfl) ?_
      refine lv_dload hx hb dL_law_1221 (lv_at hl 0 rfl) ?_
      refine lv_dcmp hx hb dL_law_1223 ?_
      refine lv_if_ne (tgt := 1229) hx hb dL_law_1224 (by decide) (fun c => ?_) (fun c => absurd c (nan_ne hnn.2))
      refine lv_goto (tgt := 1232) hx hb dL_law_1229 (by decide) ?_
      refine lv_iinc (v := nI (4 * (i + 1))) (lv' := [(5, .int (nI (4 * (i + 1)))), (7, .double r2), (6, .int 0), (0, .ref b9), (1, .ref (a 0)), (2, .ref (b 0)), (3, .ref o9), (4, .ref o8)]) hx hb dL_law_1232 hl (k := 7) rfl (iinc4 i) (by decide) rfl (fun ls hl => ?_)
      refine lv_goto (tgt := 28) hx hb dL_law_1235 (by decide) ?_
      refine W.widen (k := 35 + (i + 1)) (n := 3953 + 6 * (i + 1)) (by omega) (by omega) ?_
      exact next _ _ _ _ ⟨n, t, sh, sw, ts, bi, it, tu, ne, pr, so, lo, lp, lz, lu, lk, ld, lf, lb, lw, 0, mst, mbi, mpr, mba, mus, mud, mfs, mfb, mbo, mso, mpc, mne, fo, fd1, ⟨hn, ht5, hsm, hsw, hit, hbi, hpr, hso, hlu, hld, hlf, hlz9, hlb, hlw, hlz, hlp⟩, hP, hD, hS, hdl, lv_sub hl [3, 4, 5, 6, 7, 0] rfl⟩
  · skip
    refine lv_aload_n hx hb dL_law_1155 rfl (lv_at hl 1 rfl) ?_
    refine lv_aload_n hx hb dL_law_1156 rfl (lv_at hl 0 rfl) ?_
    refine lv_iload hx hb dL_law_1157 (lv_at hl 5 rfl) ?_
    refine lv_iconst (v := nI 1) hx hb dL_law_1159 (by decide) ?_
    refine lv_iadd hx hb dL_law_1160 ?_
    refine xk_i (y := nI (4 * i + 1)) (nI_add _ _) ?_
    refine va_sld hx hb (X_drawn hX) hbl hbA hS (i := nI (4 * i + 1)) (vp_in_nI (by omega) (by omega)) dL_law_1161 ?_
    refine xk_i (y := x1) hx1.symm ?_
    refine lv_aload hx hb dL_law_1162 (lv_at hl 4 rfl) ?_
    have hPx : va_P D vwCl (XW a cI cZ cD sh sw ts bi it tu ne pr so lo (nI t) (nI n) lp lz lu lk ld lf lb lw) H := hP.sub [0, 1, 2, 3, 4, 5, 6, 7, 8, 9, 10, 11, 12, 13, 14, 15, 16] rfl
    have hDx : va_D (fun q => s.heap.size ≤ q) (XW a cI cZ cD sh sw ts bi it tu ne pr so lo (nI t) (nI n) lp lz lu lk ld lf lb lw) := hD.sub [0, 1, 2, 3, 4, 5, 6, 7, 8, 9, 10, 11, 12, 13, 14, 15, 16] (by decide) rfl
    refine va_calli (vx_runSW (As := [.ref (a 0), .int x1, .ref o8]) (rest := []) ⟨hx, hb, hml, xk_od hown, dr_words hts _⟩ (mL_billX l hst D cI cZ cD a H sh sw ts bi it tu ne pr so lo (nI t) (nI n) lp lz lu lk ld lf lb lw o8 x1 hg) (vx_cwSW 3 (dr_words hts _) gL_law_L_bill rfl rfl rfl (by decide +kernel) ⟨Nat.le_of_ble_eq_true rfl, Nat.le_of_ble_eq_true rfl⟩) ⟨zq_blind, zq_pre hPx ((yk_Kd hK).sub [0, 1, 2] rfl) hDx hE.drawn hN.drawn hS hA⟩ rfl rfl hl.1 rfl (lv_room (Nat.le_of_ble_eq_true rfl)) dL_law_1164 ⟨(by show _ ≤ 1065; omega), (by show _ ≤ 12181; omega)⟩) hS (fun q h1 h2 => absurd h2 (Nat.not_le.mpr h1)) (fun q h => Nat.le_trans hS.1 h) (fun r u t9 H9 locs ht hvm hwr hB hz1 hk1 hS => ?_)
    have hP : va_P D vwCl (WL o9 o8 cJ a b cI cZ cD sh sw ts bi it tu ne pr so lo (nI t) (nI n) lp lz lu lk ld lf lb lw mth sh mst ts mbi mpr mba (nI t) (nI n) it tu lk mus mud mfs mfb mbo mso mpc mne fo fd) H9 := hP.kept (fun k q hq => hk1 q.1 (hP k q hq).lt (Nat.not_le.mpr (hP k q hq).lt))
    generalize H9 = H at hP hS ⊢
    refine lv_istore (lv' := [(6, .int r), (0, .ref b9), (1, .ref (a 0)), (2, .ref (b 0)), (3, .ref o9), (4, .ref o8), (5, .int (nI (4 * i)))]) hx hb dL_law_1167 hl (by decide) rfl (fun ls hl => ?_)
    refine lv_aload_n hx hb dL_law_1169 rfl (lv_at hl 3 rfl) ?_
    refine lv_aload_n hx hb dL_law_1170 rfl (lv_at hl 1 rfl) ?_
    refine lv_iload hx hb dL_law_1171 (lv_at hl 6 rfl) ?_
    refine lv_iconst (v := nI 1) hx hb dL_law_1173 (by decide) ?_
    refine lv_iadd hx hb dL_law_1174 ?_
    refine xk_i (y := nI (4 * i + 1)) (nI_add _ _) ?_
    refine va_sld hx hb (X_drawn hX) hbl hbA hS (i := nI (4 * i + 1)) (vp_in_nI (by omega) (by omega)) dL_law_1175 ?_
    refine xk_i (y := x1) hx1.symm ?_
    have hPc : va_P D vwCl (MW b cI cZ cD mth sh mst ts mbi mpr mba (nI t) (nI n) it tu lk mus mud mfs mfb mbo mso mpc mne) H := hP.sub [17, 18, 19, 20, 21, 22, 23, 24, 25, 26, 27, 28, 29, 30, 31, 32] rfl
    have hDc : va_D (fun q => s.heap.size ≤ q) (MW b cI cZ cD mth sh mst ts mbi mpr mba (nI t) (nI n) it tu lk mus mud mfs mfb mbo mso mpc mne) := hD.sub [17, 18, 19, 20, 21, 22, 23, 24, 25, 26, 27, 28, 29, 30, 31, 32] (by decide) rfl
    have hFc := va_free (wc := MW b cI cZ cD mth sh mst ts mbi mpr mba (nI t) (nI n) it tu lk mus mud mfs mfb mbo mso mpc mne) hD hS hA [17, 18, 19, 20, 21, 22, 23, 24, 25, 26, 27, 28, 29, 30, 31, 32] rfl
    refine va_calld (va_runV (As := [.int x1]) (rest := []) ⟨hx, hb, hml, xk_od hown, dr_words hts _⟩ (mX2_billX l D cI cZ cD b _ mth sh mst ts mbi mpr mba (nI t) (nI n) it tu lk mus mud mfs mfb mbo mso mpc mne x1 hg) (cwV 1 (dr_words hts _) gL_law_X2_bill rfl rfl rfl (by decide +kernel) ⟨Nat.le_of_ble_eq_true rfl, Nat.le_of_ble_eq_true rfl⟩) ⟨xk_blind, va_recv (yk_Kd hK) hP (ci := 2) (q0 := 17) rfl rfl, xk_pre hPc ((yk_Kd hK).sub [0, 1, 2] rfl) hDc⟩ rfl rfl hl.1 rfl (lv_room (Nat.le_of_ble_eq_true rfl)) dL_law_1176 ⟨(by show _ ≤ 1065; omega), (by show _ ≤ 12181; omega)⟩) hS (fun q _ h => hFc q h) hFc (fun r2 u t9 H locs ht hvm hw hB hz1 hk1 hS => ?_)
    obtain ⟨hP1, -, hD1⟩ := hB
    rw [ht] at hP1
    obtain ⟨hP, hD⟩ := va_join (wr := XW a cI cZ cD sh sw ts bi it tu ne pr so lo (nI t) (nI n) lp lz lu lk ld lf lb lw ++ [(o9, .inl (cJ, 1, .inr (.inl fo))), (o8, .inl (cD, 1, .inr (.inr (.inr (.inl fd)))))]) (w1 := MW b cI cZ cD 1 sh mst ts mbi mpr mba (nI t) (nI n) it tu lk mus mud mfs mfb mbo mso mpc mne) hP hD [17, 18, 19, 20, 21, 22, 23, 24, 25, 26, 27, 28, 29, 30, 31, 32] [0, 1, 2, 3, 4, 5, 6, 7, 8, 9, 10, 11, 12, 13, 14, 15, 16, 33, 34] rfl rfl (by decide) (by decide) hk1 hFc hP1 hD1
    have hP : va_P D vwCl (WL o9 o8 cJ a b cI cZ cD sh sw ts bi it tu ne pr so lo (nI t) (nI n) lp lz lu lk ld lf lb lw 1 sh mst ts mbi mpr mba (nI t) (nI n) it tu lk mus mud mfs mfb mbo mso mpc mne fo fd) H := hP.sub [0, 1, 2, 3, 4, 5, 6, 7, 8, 9, 10, 11, 12, 13, 14, 15, 16, 19, 20, 21, 22, 23, 24, 25, 26, 27, 28, 29, 30, 31, 32, 33, 34, 17, 18] rfl
    have hD : va_D (fun q => s.heap.size ≤ q) (WL o9 o8 cJ a b cI cZ cD sh sw ts bi it tu ne pr so lo (nI t) (nI n) lp lz lu lk ld lf lb lw 1 sh mst ts mbi mpr mba (nI t) (nI n) it tu lk mus mud mfs mfb mbo mso mpc mne fo fd) := hD.sub [0, 1, 2, 3, 4, 5, 6, 7, 8, 9, 10, 11, 12, 13, 14, 15, 16, 19, 20, 21, 22, 23, 24, 25, 26, 27, 28, 29, 30, 31, 32, 33, 34, 17, 18] (by decide) rfl
    refine lv_dstore (lv' := [(7, .double r2), (6, .int r), (0, .ref b9), (1, .ref (a 0)), (2, .ref (b 0)), (3, .ref o9), (4, .ref o8), (5, .int (nI (4 * i)))]) hx hb dL_law_1179 hl (by decide) rfl (fun ls hl => ?_)
    have hur : 1 = r ∧ ¬ r = 0 := ⟨by rw [hwr], by rw [hwr]; decide⟩
    refine lv_aload_n hx hb dL_law_1181 rfl (lv_at hl 4 rfl) ?_
    have hPc : va_P D vwCl (MW b cI cZ cD 1 sh mst ts mbi mpr mba (nI t) (nI n) it tu lk mus mud mfs mfb mbo mso mpc mne) H := hP.sub [17, 18, 19, 20, 21, 22, 23, 24, 25, 26, 27, 28, 29, 30, 31, 32] rfl
    have hDc : va_D (fun q => s.heap.size ≤ q) (MW b cI cZ cD 1 sh mst ts mbi mpr mba (nI t) (nI n) it tu lk mus mud mfs mfb mbo mso mpc mne) := hD.sub [17, 18, 19, 20, 21, 22, 23, 24, 25, 26, 27, 28, 29, 30, 31, 32] (by decide) rfl
    have hFc := va_free (wc := MW b cI cZ cD 1 sh mst ts mbi mpr mba (nI t) (nI n) it tu lk mus mud mfs mfb mbo mso mpc mne) hD hS hA [17, 18, 19, 20, 21, 22, 23, 24, 25, 26, 27, 28, 29, 30, 31, 32] rfl
    refine va_calli (va_runV (As := []) (rest := []) ⟨hx, hb, hml, xk_od hown, dr_words hts _⟩ (mX2_thrown l D cI cZ cD b _ 1 sh mst ts mbi mpr mba (nI t) (nI n) it tu lk mus mud mfs mfb mbo mso mpc mne ) (cwV 0 (dr_words hts _) gL_law_X2_thrown rfl rfl rfl (by decide +kernel) ⟨Nat.le_of_ble_eq_true rfl, Nat.le_of_ble_eq_true rfl⟩) ⟨xk_blind, va_recv (yk_Kd hK) hP (ci := 2) (q0 := 17) rfl rfl, xk_pre hPc ((yk_Kd hK).sub [0, 1, 2] rfl) hDc⟩ rfl rfl hl.1 rfl (lv_room (Nat.le_of_ble_eq_true rfl)) dL_law_1182 ⟨(by show _ ≤ 1065; omega), (by show _ ≤ 12181; omega)⟩) hS (fun q _ h => hFc q h) hFc (fun r8 u8 t9 H locs ht hvm hw hB hz1 hk1 hS => ?_)
    obtain ⟨hP1, -, hD1⟩ := hB
    rw [ht] at hP1
    obtain ⟨hP, hD⟩ := va_join (wr := XW a cI cZ cD sh sw ts bi it tu ne pr so lo (nI t) (nI n) lp lz lu lk ld lf lb lw ++ [(o9, .inl (cJ, 1, .inr (.inl fo))), (o8, .inl (cD, 1, .inr (.inr (.inr (.inl fd)))))]) (w1 := MW b cI cZ cD 1 sh mst ts mbi mpr mba (nI t) (nI n) it tu lk mus mud mfs mfb mbo mso mpc mne) hP hD [17, 18, 19, 20, 21, 22, 23, 24, 25, 26, 27, 28, 29, 30, 31, 32] [0, 1, 2, 3, 4, 5, 6, 7, 8, 9, 10, 11, 12, 13, 14, 15, 16, 33, 34] rfl rfl (by decide) (by decide) hk1 hFc hP1 hD1
    have hP : va_P D vwCl (WL o9 o8 cJ a b cI cZ cD sh sw ts bi it tu ne pr so lo (nI t) (nI n) lp lz lu lk ld lf lb lw 1 sh mst ts mbi mpr mba (nI t) (nI n) it tu lk mus mud mfs mfb mbo mso mpc mne fo fd) H := hP.sub [0, 1, 2, 3, 4, 5, 6, 7, 8, 9, 10, 11, 12, 13, 14, 15, 16, 19, 20, 21, 22, 23, 24, 25, 26, 27, 28, 29, 30, 31, 32, 33, 34, 17, 18] rfl
    have hD : va_D (fun q => s.heap.size ≤ q) (WL o9 o8 cJ a b cI cZ cD sh sw ts bi it tu ne pr so lo (nI t) (nI n) lp lz lu lk ld lf lb lw 1 sh mst ts mbi mpr mba (nI t) (nI n) it tu lk mus mud mfs mfb mbo mso mpc mne fo fd) := hD.sub [0, 1, 2, 3, 4, 5, 6, 7, 8, 9, 10, 11, 12, 13, 14, 15, 16, 19, 20, 21, 22, 23, 24, 25, 26, 27, 28, 29, 30, 31, 32, 33, 34, 17, 18] (by decide) rfl
    refine xk_i (y := 1) hw ?_
    refine lv_iload hx hb dL_law_1185 (lv_at hl 1 rfl) ?_
    refine lv_icmp_eq (tgt := 1192) hx hb dL_law_1187 (by decide) (fun c => ?_) (fun c => absurd hur.1 c)
    refine lv_iload hx hb dL_law_1192 (lv_at hl 1 rfl) ?_
    refine lv_if_ne (tgt := 1229) hx hb dL_law_1194 (by decide) (fun c => ?_) (fun c => absurd c hur.2)
    refine lv_goto (tgt := 1232) hx hb dL_law_1229 (by decide) ?_
    refine lv_iinc (v := nI (4 * (i + 1))) (lv' := [(5, .int (nI (4 * (i + 1)))), (7, .double r2), (6, .int r), (0, .ref b9), (1, .ref (a 0)), (2, .ref (b 0)), (3, .ref o9), (4, .ref o8)]) hx hb dL_law_1232 hl (k := 7) rfl (iinc4 i) (by decide) rfl (fun ls hl => ?_)
    refine lv_goto (tgt := 28) hx hb dL_law_1235 (by decide) ?_
    refine W.widen (k := 35 + (i + 1)) (n := 3953 + 6 * (i + 1)) (by omega) (by omega) ?_
    exact next _ _ _ _ ⟨n, t, sh, sw, ts, bi, it, tu, ne, pr, so, lo, lp, lz, lu, lk, ld, lf, lb, lw, 1, mst, mbi, mpr, mba, mus, mud, mfs, mfb, mbo, mso, mpc, mne, fo, fd, ⟨hn, ht5, hsm, hsw, hit, hbi, hpr, hso, hlu, hld, hlf, hlz9, hlb, hlw, hlz, hlp⟩, hP, hD, hS, hdl, lv_sub hl [3, 4, 5, 6, 7, 0] rfl⟩
set_option maxHeartbeats 4000000 in
set_option maxRecDepth 100000 in
theorem ls_5 {p : Program} {l : Launch} {e : Env} {s : State} {m : MethodId} {below : List Frame} {meth : Method} {c : Code} {b9 L : Nat} {xs : Nat → Int32} {D : va_G} {cI cZ cD cJ : ClassId} (C : LC l p s m meth c b9 L xs D cI cZ cD cJ) {a b : Nat → Nat} {o9 o8 i : Nat} (hi4 : 4 * i + 4 ≤ L) {H : Heap} {locs : List Loc} {ls : Array Slot} {d : Drawn} (hI : LInv s D cI cZ cD cJ a b b9 o9 o8 i H locs ls d) (next : ∀ (H' : Heap) (locs' : List Loc) (ls' : Array Slot) (d' : Drawn), LInv s D cI cZ cD cJ a b b9 o9 o8 (i + 1) H' locs' ls' d' → W p l e room_1 (s.setDrawn d') m #[Value.ref b9] below meth c H' locs' (35 + (i + 1)) (3953 + 6 * (i + 1)) (lw_Z below #[Value.ref b9] s) (F0 m 28 ls' [])) : W p l e room_1 (s.setDrawn d) m #[Value.ref b9] below meth c H locs (35 + i) (3953 + 6 * i) (lw_Z below #[Value.ref b9] s) (F0 m 498 ls []) := by
  obtain ⟨hst, hL, C0, hE, hN, hK⟩ := C
  obtain ⟨hx, hb, hr, hml, hown, hts0, hX, hbl, hlocks, hgv⟩ := C0
  have hts : ∀ w ∈ wsL_law, w.before #[Value.ref b9] s = true := fun w h => hts0 w (wsL_law_in w h)
  obtain ⟨n, t, sh, sw, ts, bi, it, tu, ne, pr, so, lo, lp, lz, lu, lk, ld, lf, lb, lw, mth, mst, mbi, mpr, mba, mus, mud, mfs, mfb, mbo, mso, mpc, mne, fo, fd, ⟨hn, ht5, hsm, hsw, hit, hbi, hpr, hso, hlu, hld, hlf, hlz9, hlb, hlw, hlz, hlp⟩, hP, hD, hS, hdl, hl⟩ := hI
  have hA : ∀ q : Nat, s.heap.size ≤ q → (fun q => s.heap.size ≤ q) q := fun q h => h
  have hbA : ¬ (fun q => s.heap.size ≤ q) b9 := Nat.not_le.mpr hbl
  refine lv_aload_n hx hb dL_law_498 rfl (lv_at hl 1 rfl) ?_
  have hPx : va_P D vwCl (XW a cI cZ cD sh sw ts bi it tu ne pr so lo (nI t) (nI n) lp lz lu lk ld lf lb lw) H := hP.sub [0, 1, 2, 3, 4, 5, 6, 7, 8, 9, 10, 11, 12, 13, 14, 15, 16] rfl
  have hDx : va_D (fun q => s.heap.size ≤ q) (XW a cI cZ cD sh sw ts bi it tu ne pr so lo (nI t) (nI n) lp lz lu lk ld lf lb lw) := hD.sub [0, 1, 2, 3, 4, 5, 6, 7, 8, 9, 10, 11, 12, 13, 14, 15, 16] (by decide) rfl
  refine vp_callSi (va_Run.run (va_runV (As := []) (rest := []) ⟨hx, hb, hml, xk_od hown, dr_words hts _⟩ (mX1_closedV l D cI cZ cD a _ sh sw ts bi it tu ne pr so lo (nI t) (nI n) lp lz lu lk ld lf lb lw) (cwV 0 (dr_words hts _) gL_law_X1_closed rfl rfl rfl (by decide +kernel) ⟨Nat.le_of_ble_eq_true rfl, Nat.le_of_ble_eq_true rfl⟩) ⟨xk_blind, va_recv (yk_Kd hK) hP (ci := 1) (q0 := 0) rfl rfl, xk_pre hPx ((yk_Kd hK).sub [0, 1, 2] rfl) hDx⟩ rfl rfl hl.1 rfl (lv_room (Nat.le_of_ble_eq_true rfl)) dL_law_499 ⟨(by show _ ≤ 1065; omega), (by show _ ≤ 12181; omega)⟩)) (fun r hr1 => ?_)
  refine xk_i (y := nI n) hr1 ?_
  refine lv_aload_n hx hb dL_law_502 rfl (lv_at hl 2 rfl) ?_
  have hPc : va_P D vwCl (MW b cI cZ cD mth sh mst ts mbi mpr mba (nI t) (nI n) it tu lk mus mud mfs mfb mbo mso mpc mne) H := hP.sub [17, 18, 19, 20, 21, 22, 23, 24, 25, 26, 27, 28, 29, 30, 31, 32] rfl
  have hDc : va_D (fun q => s.heap.size ≤ q) (MW b cI cZ cD mth sh mst ts mbi mpr mba (nI t) (nI n) it tu lk mus mud mfs mfb mbo mso mpc mne) := hD.sub [17, 18, 19, 20, 21, 22, 23, 24, 25, 26, 27, 28, 29, 30, 31, 32] (by decide) rfl
  have hFc := va_free (wc := MW b cI cZ cD mth sh mst ts mbi mpr mba (nI t) (nI n) it tu lk mus mud mfs mfb mbo mso mpc mne) hD hS hA [17, 18, 19, 20, 21, 22, 23, 24, 25, 26, 27, 28, 29, 30, 31, 32] rfl
  refine va_calli (va_runV (As := []) (rest := [.int (nI n)]) ⟨hx, hb, hml, xk_od hown, dr_words hts _⟩ (mX2_closed l D cI cZ cD b _ mth sh mst ts mbi mpr mba (nI t) (nI n) it tu lk mus mud mfs mfb mbo mso mpc mne ) (cwV 0 (dr_words hts _) gL_law_X2_closed rfl rfl rfl (by decide +kernel) ⟨Nat.le_of_ble_eq_true rfl, Nat.le_of_ble_eq_true rfl⟩) ⟨xk_blind, va_recv (yk_Kd hK) hP (ci := 2) (q0 := 17) rfl rfl, xk_pre hPc ((yk_Kd hK).sub [0, 1, 2] rfl) hDc⟩ rfl rfl hl.1 rfl (lv_room (Nat.le_of_ble_eq_true rfl)) dL_law_503 ⟨(by show _ ≤ 1065; omega), (by show _ ≤ 12181; omega)⟩) hS (fun q _ h => hFc q h) hFc (fun r2 u t9 H locs ht hvm hw hB hz1 hk1 hS => ?_)
  obtain ⟨hP1, -, hD1⟩ := hB
  rw [ht] at hP1
  obtain ⟨hP, hD⟩ := va_join (wr := XW a cI cZ cD sh sw ts bi it tu ne pr so lo (nI t) (nI n) lp lz lu lk ld lf lb lw ++ [(o9, .inl (cJ, 1, .inr (.inl fo))), (o8, .inl (cD, 1, .inr (.inr (.inr (.inl fd)))))]) (w1 := MW b cI cZ cD 0 sh mst ts mbi mpr mba (nI t) (nI n) it tu lk mus mud mfs mfb mbo mso mpc mne) hP hD [17, 18, 19, 20, 21, 22, 23, 24, 25, 26, 27, 28, 29, 30, 31, 32] [0, 1, 2, 3, 4, 5, 6, 7, 8, 9, 10, 11, 12, 13, 14, 15, 16, 33, 34] rfl rfl (by decide) (by decide) hk1 hFc hP1 hD1
  have hP : va_P D vwCl (WL o9 o8 cJ a b cI cZ cD sh sw ts bi it tu ne pr so lo (nI t) (nI n) lp lz lu lk ld lf lb lw 0 sh mst ts mbi mpr mba (nI t) (nI n) it tu lk mus mud mfs mfb mbo mso mpc mne fo fd) H := hP.sub [0, 1, 2, 3, 4, 5, 6, 7, 8, 9, 10, 11, 12, 13, 14, 15, 16, 19, 20, 21, 22, 23, 24, 25, 26, 27, 28, 29, 30, 31, 32, 33, 34, 17, 18] rfl
  have hD : va_D (fun q => s.heap.size ≤ q) (WL o9 o8 cJ a b cI cZ cD sh sw ts bi it tu ne pr so lo (nI t) (nI n) lp lz lu lk ld lf lb lw 0 sh mst ts mbi mpr mba (nI t) (nI n) it tu lk mus mud mfs mfb mbo mso mpc mne fo fd) := hD.sub [0, 1, 2, 3, 4, 5, 6, 7, 8, 9, 10, 11, 12, 13, 14, 15, 16, 19, 20, 21, 22, 23, 24, 25, 26, 27, 28, 29, 30, 31, 32, 33, 34, 17, 18] (by decide) rfl
  subst hw
  refine lv_icmp_eq (tgt := 1232) hx hb dL_law_506 (by decide) (fun c => ?_) (fun c => absurd rfl c)
  refine lv_iinc (v := nI (4 * (i + 1))) (lv' := [(5, .int (nI (4 * (i + 1)))), (0, .ref b9), (1, .ref (a 0)), (2, .ref (b 0)), (3, .ref o9), (4, .ref o8)]) hx hb dL_law_1232 hl (k := 5) rfl (iinc4 i) (by decide) rfl (fun ls hl => ?_)
  refine lv_goto (tgt := 28) hx hb dL_law_1235 (by decide) ?_
  refine W.widen (k := 35 + (i + 1)) (n := 3953 + 6 * (i + 1)) (by omega) (by omega) ?_
  exact next _ _ _ _ ⟨n, t, sh, sw, ts, bi, it, tu, ne, pr, so, lo, lp, lz, lu, lk, ld, lf, lb, lw, 0, mst, mbi, mpr, mba, mus, mud, mfs, mfb, mbo, mso, mpc, mne, fo, fd, ⟨hn, ht5, hsm, hsw, hit, hbi, hpr, hso, hlu, hld, hlf, hlz9, hlb, hlw, hlz, hlp⟩, hP, hD, hS, hdl, lv_sub hl [1, 2, 3, 4, 5, 0] rfl⟩
set_option maxHeartbeats 4000000 in
set_option maxRecDepth 100000 in
theorem ls_13 {p : Program} {l : Launch} {e : Env} {s : State} {m : MethodId} {below : List Frame} {meth : Method} {c : Code} {b9 L : Nat} {xs : Nat → Int32} {D : va_G} {cI cZ cD cJ : ClassId} (C : LC l p s m meth c b9 L xs D cI cZ cD cJ) {a b : Nat → Nat} {o9 o8 i : Nat} (hi4 : 4 * i + 4 ≤ L) {H : Heap} {locs : List Loc} {ls : Array Slot} {d : Drawn} (hI : LInv s D cI cZ cD cJ a b b9 o9 o8 i H locs ls d) (next : ∀ (H' : Heap) (locs' : List Loc) (ls' : Array Slot) (d' : Drawn), LInv s D cI cZ cD cJ a b b9 o9 o8 (i + 1) H' locs' ls' d' → W p l e room_1 (s.setDrawn d') m #[Value.ref b9] below meth c H' locs' (35 + (i + 1)) (3953 + 6 * (i + 1)) (lw_Z below #[Value.ref b9] s) (F0 m 28 ls' [])) : W p l e room_1 (s.setDrawn d) m #[Value.ref b9] below meth c H locs (35 + i) (3953 + 6 * i) (lw_Z below #[Value.ref b9] s) (F0 m 1086 ls []) := by
  obtain ⟨hst, hL, C0, hE, hN, hK⟩ := C
  obtain ⟨hx, hb, hr, hml, hown, hts0, hX, hbl, hlocks, hgv⟩ := C0
  have hts : ∀ w ∈ wsL_law, w.before #[Value.ref b9] s = true := fun w h => hts0 w (wsL_law_in w h)
  obtain ⟨n, t, sh, sw, ts, bi, it, tu, ne, pr, so, lo, lp, lz, lu, lk, ld, lf, lb, lw, mth, mst, mbi, mpr, mba, mus, mud, mfs, mfb, mbo, mso, mpc, mne, fo, fd, ⟨hn, ht5, hsm, hsw, hit, hbi, hpr, hso, hlu, hld, hlf, hlz9, hlb, hlw, hlz, hlp⟩, hP, hD, hS, hdl, hl⟩ := hI
  have hA : ∀ q : Nat, s.heap.size ≤ q → (fun q => s.heap.size ≤ q) q := fun q h => h
  have hbA : ¬ (fun q => s.heap.size ≤ q) b9 := Nat.not_le.mpr hbl
  refine lv_aload_n hx hb dL_law_1086 rfl (lv_at hl 1 rfl) ?_
  have hPx : va_P D vwCl (XW a cI cZ cD sh sw ts bi it tu ne pr so lo (nI t) (nI n) lp lz lu lk ld lf lb lw) H := hP.sub [0, 1, 2, 3, 4, 5, 6, 7, 8, 9, 10, 11, 12, 13, 14, 15, 16] rfl
  have hDx : va_D (fun q => s.heap.size ≤ q) (XW a cI cZ cD sh sw ts bi it tu ne pr so lo (nI t) (nI n) lp lz lu lk ld lf lb lw) := hD.sub [0, 1, 2, 3, 4, 5, 6, 7, 8, 9, 10, 11, 12, 13, 14, 15, 16] (by decide) rfl
  refine vp_callSi (va_Run.run (va_runV (As := []) (rest := []) ⟨hx, hb, hml, xk_od hown, dr_words hts _⟩ (mX1_turnV l D cI cZ cD a _ sh sw ts bi it tu ne pr so lo (nI t) (nI n) lp lz lu lk ld lf lb lw) (cwV 0 (dr_words hts _) gL_law_X1_turn rfl rfl rfl (by decide +kernel) ⟨Nat.le_of_ble_eq_true rfl, Nat.le_of_ble_eq_true rfl⟩) ⟨xk_blind, va_recv (yk_Kd hK) hP (ci := 1) (q0 := 0) rfl rfl, xk_pre hPx ((yk_Kd hK).sub [0, 1, 2] rfl) hDx⟩ rfl rfl hl.1 rfl (lv_room (Nat.le_of_ble_eq_true rfl)) dL_law_1087 ⟨(by show _ ≤ 1065; omega), (by show _ ≤ 12181; omega)⟩)) (fun r hr1 => ?_)
  refine xk_i (y := nI t) hr1 ?_
  refine lv_aload_n hx hb dL_law_1090 rfl (lv_at hl 2 rfl) ?_
  have hPc : va_P D vwCl (MW b cI cZ cD mth sh mst ts mbi mpr mba (nI t) (nI n) it tu lk mus mud mfs mfb mbo mso mpc mne) H := hP.sub [17, 18, 19, 20, 21, 22, 23, 24, 25, 26, 27, 28, 29, 30, 31, 32] rfl
  have hDc : va_D (fun q => s.heap.size ≤ q) (MW b cI cZ cD mth sh mst ts mbi mpr mba (nI t) (nI n) it tu lk mus mud mfs mfb mbo mso mpc mne) := hD.sub [17, 18, 19, 20, 21, 22, 23, 24, 25, 26, 27, 28, 29, 30, 31, 32] (by decide) rfl
  have hFc := va_free (wc := MW b cI cZ cD mth sh mst ts mbi mpr mba (nI t) (nI n) it tu lk mus mud mfs mfb mbo mso mpc mne) hD hS hA [17, 18, 19, 20, 21, 22, 23, 24, 25, 26, 27, 28, 29, 30, 31, 32] rfl
  refine va_calli (va_runV (As := []) (rest := [.int (nI t)]) ⟨hx, hb, hml, xk_od hown, dr_words hts _⟩ (mX2_turn l D cI cZ cD b _ mth sh mst ts mbi mpr mba (nI t) (nI n) it tu lk mus mud mfs mfb mbo mso mpc mne ) (cwV 0 (dr_words hts _) gL_law_X2_turn rfl rfl rfl (by decide +kernel) ⟨Nat.le_of_ble_eq_true rfl, Nat.le_of_ble_eq_true rfl⟩) ⟨xk_blind, va_recv (yk_Kd hK) hP (ci := 2) (q0 := 17) rfl rfl, xk_pre hPc ((yk_Kd hK).sub [0, 1, 2] rfl) hDc⟩ rfl rfl hl.1 rfl (lv_room (Nat.le_of_ble_eq_true rfl)) dL_law_1091 ⟨(by show _ ≤ 1065; omega), (by show _ ≤ 12181; omega)⟩) hS (fun q _ h => hFc q h) hFc (fun r2 u t9 H locs ht hvm hw hB hz1 hk1 hS => ?_)
  obtain ⟨hP1, -, hD1⟩ := hB
  rw [ht] at hP1
  obtain ⟨hP, hD⟩ := va_join (wr := XW a cI cZ cD sh sw ts bi it tu ne pr so lo (nI t) (nI n) lp lz lu lk ld lf lb lw ++ [(o9, .inl (cJ, 1, .inr (.inl fo))), (o8, .inl (cD, 1, .inr (.inr (.inr (.inl fd)))))]) (w1 := MW b cI cZ cD 0 sh mst ts mbi mpr mba (nI t) (nI n) it tu lk mus mud mfs mfb mbo mso mpc mne) hP hD [17, 18, 19, 20, 21, 22, 23, 24, 25, 26, 27, 28, 29, 30, 31, 32] [0, 1, 2, 3, 4, 5, 6, 7, 8, 9, 10, 11, 12, 13, 14, 15, 16, 33, 34] rfl rfl (by decide) (by decide) hk1 hFc hP1 hD1
  have hP : va_P D vwCl (WL o9 o8 cJ a b cI cZ cD sh sw ts bi it tu ne pr so lo (nI t) (nI n) lp lz lu lk ld lf lb lw 0 sh mst ts mbi mpr mba (nI t) (nI n) it tu lk mus mud mfs mfb mbo mso mpc mne fo fd) H := hP.sub [0, 1, 2, 3, 4, 5, 6, 7, 8, 9, 10, 11, 12, 13, 14, 15, 16, 19, 20, 21, 22, 23, 24, 25, 26, 27, 28, 29, 30, 31, 32, 33, 34, 17, 18] rfl
  have hD : va_D (fun q => s.heap.size ≤ q) (WL o9 o8 cJ a b cI cZ cD sh sw ts bi it tu ne pr so lo (nI t) (nI n) lp lz lu lk ld lf lb lw 0 sh mst ts mbi mpr mba (nI t) (nI n) it tu lk mus mud mfs mfb mbo mso mpc mne fo fd) := hD.sub [0, 1, 2, 3, 4, 5, 6, 7, 8, 9, 10, 11, 12, 13, 14, 15, 16, 19, 20, 21, 22, 23, 24, 25, 26, 27, 28, 29, 30, 31, 32, 33, 34, 17, 18] (by decide) rfl
  subst hw
  refine lv_icmp_eq (tgt := 1232) hx hb dL_law_1094 (by decide) (fun c => ?_) (fun c => absurd rfl c)
  refine lv_iinc (v := nI (4 * (i + 1))) (lv' := [(5, .int (nI (4 * (i + 1)))), (0, .ref b9), (1, .ref (a 0)), (2, .ref (b 0)), (3, .ref o9), (4, .ref o8)]) hx hb dL_law_1232 hl (k := 5) rfl (iinc4 i) (by decide) rfl (fun ls hl => ?_)
  refine lv_goto (tgt := 28) hx hb dL_law_1235 (by decide) ?_
  refine W.widen (k := 35 + (i + 1)) (n := 3953 + 6 * (i + 1)) (by omega) (by omega) ?_
  exact next _ _ _ _ ⟨n, t, sh, sw, ts, bi, it, tu, ne, pr, so, lo, lp, lz, lu, lk, ld, lf, lb, lw, 0, mst, mbi, mpr, mba, mus, mud, mfs, mfb, mbo, mso, mpc, mne, fo, fd, ⟨hn, ht5, hsm, hsw, hit, hbi, hpr, hso, hlu, hld, hlf, hlz9, hlb, hlw, hlz, hlp⟩, hP, hD, hS, hdl, lv_sub hl [1, 2, 3, 4, 5, 0] rfl⟩
set_option maxHeartbeats 4000000 in
set_option maxRecDepth 100000 in
theorem ls_12 {p : Program} {l : Launch} {e : Env} {s : State} {m : MethodId} {below : List Frame} {meth : Method} {c : Code} {b9 L : Nat} {xs : Nat → Int32} {D : va_G} {cI cZ cD cJ : ClassId} (C : LC l p s m meth c b9 L xs D cI cZ cD cJ) {a b : Nat → Nat} {o9 o8 i : Nat} (hi4 : 4 * i + 4 ≤ L) {H : Heap} {locs : List Loc} {ls : Array Slot} {d : Drawn} (hI : LInv s D cI cZ cD cJ a b b9 o9 o8 i H locs ls d) (next : ∀ (H' : Heap) (locs' : List Loc) (ls' : Array Slot) (d' : Drawn), LInv s D cI cZ cD cJ a b b9 o9 o8 (i + 1) H' locs' ls' d' → W p l e room_1 (s.setDrawn d') m #[Value.ref b9] below meth c H' locs' (35 + (i + 1)) (3953 + 6 * (i + 1)) (lw_Z below #[Value.ref b9] s) (F0 m 28 ls' [])) : W p l e room_1 (s.setDrawn d) m #[Value.ref b9] below meth c H locs (35 + i) (3953 + 6 * i) (lw_Z below #[Value.ref b9] s) (F0 m 1045 ls []) := by
  obtain ⟨hst, hL, C0, hE, hN, hK⟩ := C
  obtain ⟨hx, hb, hr, hml, hown, hts0, hX, hbl, hlocks, hgv⟩ := C0
  have hts : ∀ w ∈ wsL_law, w.before #[Value.ref b9] s = true := fun w h => hts0 w (wsL_law_in w h)
  obtain ⟨n, t, sh, sw, ts, bi, it, tu, ne, pr, so, lo, lp, lz, lu, lk, ld, lf, lb, lw, mth, mst, mbi, mpr, mba, mus, mud, mfs, mfb, mbo, mso, mpc, mne, fo, fd, ⟨hn, ht5, hsm, hsw, hit, hbi, hpr, hso, hlu, hld, hlf, hlz9, hlb, hlw, hlz, hlp⟩, hP, hD, hS, hdl, hl⟩ := hI
  have hA : ∀ q : Nat, s.heap.size ≤ q → (fun q => s.heap.size ≤ q) q := fun q h => h
  have hbA : ¬ (fun q => s.heap.size ≤ q) b9 := Nat.not_le.mpr hbl
  refine lv_aload_n hx hb dL_law_1045 rfl (lv_at hl 1 rfl) ?_
  have hPx : va_P D vwCl (XW a cI cZ cD sh sw ts bi it tu ne pr so lo (nI t) (nI n) lp lz lu lk ld lf lb lw) H := hP.sub [0, 1, 2, 3, 4, 5, 6, 7, 8, 9, 10, 11, 12, 13, 14, 15, 16] rfl
  have hDx : va_D (fun q => s.heap.size ≤ q) (XW a cI cZ cD sh sw ts bi it tu ne pr so lo (nI t) (nI n) lp lz lu lk ld lf lb lw) := hD.sub [0, 1, 2, 3, 4, 5, 6, 7, 8, 9, 10, 11, 12, 13, 14, 15, 16] (by decide) rfl
  refine vp_callSd (va_Run.run (va_runV (As := []) (rest := []) ⟨hx, hb, hml, xk_od hown, dr_words hts _⟩ (mX1_batteryV l D cI cZ cD a _ sh sw ts bi it tu ne pr so lo (nI t) (nI n) lp lz lu lk ld lf lb lw) (cwV 0 (dr_words hts _) gL_law_X1_battery rfl rfl rfl (by decide +kernel) ⟨Nat.le_of_ble_eq_true rfl, Nat.le_of_ble_eq_true rfl⟩) ⟨xk_blind, va_recv (yk_Kd hK) hP (ci := 1) (q0 := 0) rfl rfl, xk_pre hPx ((yk_Kd hK).sub [0, 1, 2] rfl) hDx⟩ rfl rfl hl.1 rfl (lv_room (Nat.le_of_ble_eq_true rfl)) dL_law_1046 ⟨(by show _ ≤ 1065; omega), (by show _ ≤ 12181; omega)⟩)) (fun r hr1 => ?_)
  refine xk_d (y := so) hr1 ?_
  refine lv_dstore (lv' := [(6, .double so), (0, .ref b9), (1, .ref (a 0)), (2, .ref (b 0)), (3, .ref o9), (4, .ref o8), (5, .int (nI (4 * i)))]) hx hb dL_law_1049 hl (by decide) rfl (fun ls hl => ?_)
  refine lv_aload_n hx hb dL_law_1051 rfl (lv_at hl 3 rfl) ?_
  have hPc : va_P D vwCl (MW b cI cZ cD mth sh mst ts mbi mpr mba (nI t) (nI n) it tu lk mus mud mfs mfb mbo mso mpc mne) H := hP.sub [17, 18, 19, 20, 21, 22, 23, 24, 25, 26, 27, 28, 29, 30, 31, 32] rfl
  have hDc : va_D (fun q => s.heap.size ≤ q) (MW b cI cZ cD mth sh mst ts mbi mpr mba (nI t) (nI n) it tu lk mus mud mfs mfb mbo mso mpc mne) := hD.sub [17, 18, 19, 20, 21, 22, 23, 24, 25, 26, 27, 28, 29, 30, 31, 32] (by decide) rfl
  have hFc := va_free (wc := MW b cI cZ cD mth sh mst ts mbi mpr mba (nI t) (nI n) it tu lk mus mud mfs mfb mbo mso mpc mne) hD hS hA [17, 18, 19, 20, 21, 22, 23, 24, 25, 26, 27, 28, 29, 30, 31, 32] rfl
  refine va_calld (va_runV (As := []) (rest := []) ⟨hx, hb, hml, xk_od hown, dr_words hts _⟩ (mX2_battery l D cI cZ cD b _ mth sh mst ts mbi mpr mba (nI t) (nI n) it tu lk mus mud mfs mfb mbo mso mpc mne ) (cwV 0 (dr_words hts _) gL_law_X2_battery rfl rfl rfl (by decide +kernel) ⟨Nat.le_of_ble_eq_true rfl, Nat.le_of_ble_eq_true rfl⟩) ⟨xk_blind, va_recv (yk_Kd hK) hP (ci := 2) (q0 := 17) rfl rfl, xk_pre hPc ((yk_Kd hK).sub [0, 1, 2] rfl) hDc⟩ rfl rfl hl.1 rfl (lv_room (Nat.le_of_ble_eq_true rfl)) dL_law_1052 ⟨(by show _ ≤ 1065; omega), (by show _ ≤ 12181; omega)⟩) hS (fun q _ h => hFc q h) hFc (fun r2 u t9 H locs ht hvm hw hB hz1 hk1 hS => ?_)
  obtain ⟨hP1, -, hD1⟩ := hB
  rw [ht] at hP1
  obtain ⟨hP, hD⟩ := va_join (wr := XW a cI cZ cD sh sw ts bi it tu ne pr so lo (nI t) (nI n) lp lz lu lk ld lf lb lw ++ [(o9, .inl (cJ, 1, .inr (.inl fo))), (o8, .inl (cD, 1, .inr (.inr (.inr (.inl fd)))))]) (w1 := MW b cI cZ cD 0 sh mst ts mbi mpr mba (nI t) (nI n) it tu lk mus mud mfs mfb mbo mso mpc mne) hP hD [17, 18, 19, 20, 21, 22, 23, 24, 25, 26, 27, 28, 29, 30, 31, 32] [0, 1, 2, 3, 4, 5, 6, 7, 8, 9, 10, 11, 12, 13, 14, 15, 16, 33, 34] rfl rfl (by decide) (by decide) hk1 hFc hP1 hD1
  have hP : va_P D vwCl (WL o9 o8 cJ a b cI cZ cD sh sw ts bi it tu ne pr so lo (nI t) (nI n) lp lz lu lk ld lf lb lw 0 sh mst ts mbi mpr mba (nI t) (nI n) it tu lk mus mud mfs mfb mbo mso mpc mne fo fd) H := hP.sub [0, 1, 2, 3, 4, 5, 6, 7, 8, 9, 10, 11, 12, 13, 14, 15, 16, 19, 20, 21, 22, 23, 24, 25, 26, 27, 28, 29, 30, 31, 32, 33, 34, 17, 18] rfl
  have hD : va_D (fun q => s.heap.size ≤ q) (WL o9 o8 cJ a b cI cZ cD sh sw ts bi it tu ne pr so lo (nI t) (nI n) lp lz lu lk ld lf lb lw 0 sh mst ts mbi mpr mba (nI t) (nI n) it tu lk mus mud mfs mfb mbo mso mpc mne fo fd) := hD.sub [0, 1, 2, 3, 4, 5, 6, 7, 8, 9, 10, 11, 12, 13, 14, 15, 16, 19, 20, 21, 22, 23, 24, 25, 26, 27, 28, 29, 30, 31, 32, 33, 34, 17, 18] (by decide) rfl
  have hnz : nz (dt so) (dt r2) := by rw [hw]; exact Or.inl hso
  refine lv_dstore (lv' := [(8, .double r2), (6, .double so), (0, .ref b9), (1, .ref (a 0)), (2, .ref (b 0)), (3, .ref o9), (4, .ref o8), (5, .int (nI (4 * i)))]) hx hb dL_law_1055 hl (by decide) rfl (fun ls hl => ?_)
  refine lv_dload hx hb dL_law_1057 (lv_at hl 1 rfl) ?_
  refine lv_dload hx hb dL_law_1059 (lv_at hl 0 rfl) ?_
  refine lv_dcmp hx hb dL_law_1061 ?_
  refine lv_if_eq (tgt := 1083) hx hb dL_law_1062 (by decide) (fun c => ?_) (fun c => ?_)
  · skip
    refine lv_goto (tgt := 1232) hx hb dL_law_1083 (by decide) ?_
    refine lv_iinc (v := nI (4 * (i + 1))) (lv' := [(5, .int (nI (4 * (i + 1)))), (8, .double r2), (6, .double so), (0, .ref b9), (1, .ref (a 0)), (2, .ref (b 0)), (3, .ref o9), (4, .ref o8)]) hx hb dL_law_1232 hl (k := 7) rfl (iinc4 i) (by decide) rfl (fun ls hl => ?_)
    refine lv_goto (tgt := 28) hx hb dL_law_1235 (by decide) ?_
    refine W.widen (k := 35 + (i + 1)) (n := 3953 + 6 * (i + 1)) (by omega) (by omega) ?_
    exact next _ _ _ _ ⟨n, t, sh, sw, ts, bi, it, tu, ne, pr, so, lo, lp, lz, lu, lk, ld, lf, lb, lw, 0, mst, mbi, mpr, mba, mus, mud, mfs, mfb, mbo, mso, mpc, mne, fo, fd, ⟨hn, ht5, hsm, hsw, hit, hbi, hpr, hso, hlu, hld, hlf, hlz9, hlb, hlw, hlz, hlp⟩, hP, hD, hS, hdl, lv_sub hl [3, 4, 5, 6, 7, 0] rfl⟩
  · skip
    have hnn := (dCmp_nz hnz).resolve_left (fun z => c ((cv_l_eq _).mpr z))
    refine lv_dload hx hb dL_law_1065 (lv_at hl 1 rfl) ?_
    refine lv_dload hx hb dL_law_1067 (lv_at hl 1 rfl) ?_
    refine lv_dcmp hx hb dL_law_1069 ?_
    refine lv_if_eq (tgt := 1081) hx hb dL_law_1070 (by decide) (fun c => absurd c (nan_ne hnn.1)) (fun c => ?_)
    refine lv_dload hx hb dL_law_1073 (lv_at hl 0 rfl) ?_
    refine lv_dload hx hb dL_law_1075 (lv_at hl 0 rfl) ?_
    refine lv_dcmp hx hb dL_law_1077 ?_
    refine lv_if_ne (tgt := 1083) hx hb dL_law_1078 (by decide) (fun c => ?_) (fun c => absurd c (nan_ne hnn.2))
    refine lv_goto (tgt := 1232) hx hb dL_law_1083 (by decide) ?_
    refine lv_iinc (v := nI (4 * (i + 1))) (lv' := [(5, .int (nI (4 * (i + 1)))), (8, .double r2), (6, .double so), (0, .ref b9), (1, .ref (a 0)), (2, .ref (b 0)), (3, .ref o9), (4, .ref o8)]) hx hb dL_law_1232 hl (k := 7) rfl (iinc4 i) (by decide) rfl (fun ls hl => ?_)
    refine lv_goto (tgt := 28) hx hb dL_law_1235 (by decide) ?_
    refine W.widen (k := 35 + (i + 1)) (n := 3953 + 6 * (i + 1)) (by omega) (by omega) ?_
    exact next _ _ _ _ ⟨n, t, sh, sw, ts, bi, it, tu, ne, pr, so, lo, lp, lz, lu, lk, ld, lf, lb, lw, 0, mst, mbi, mpr, mba, mus, mud, mfs, mfb, mbo, mso, mpc, mne, fo, fd, ⟨hn, ht5, hsm, hsw, hit, hbi, hpr, hso, hlu, hld, hlf, hlz9, hlb, hlw, hlz, hlp⟩, hP, hD, hS, hdl, lv_sub hl [3, 4, 5, 6, 7, 0] rfl⟩
