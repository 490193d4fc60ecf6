/-! THE LAW'S LOOP, piece by piece -/
theorem Inv.le {c k : Nat} {σ : St} (h : c ≤ k) (hi : Inv c σ) : Inv k σ := by
  induction h with
  | refl => exact hi
  | step _ ih => exact ih.mono
theorem lowS_nI (v : Int32) {k : Nat} (h1 : 1 ≤ k) (h2 : k ≤ 1000) : ∃ j, j < k ∧ lowS v (nI k) = nI j := by
  obtain ⟨j, hj, e⟩ := pk_andE v (m := 2147483647) 31 (by decide)
  refine ⟨j % k, Nat.mod_lt _ (by omega), ?_⟩
  unfold lowS
  rw [e]
  exact pk_rem (by omega) (by omega) (by omega)
/-- where the law stands -/
def LC (l : Launch) (p : Program) (s : State) (m : MethodId) (meth : Method) (c : Code) (b9 L : Nat) (xs : Nat → Int32) (D : va_G) (cI cZ cD : ClassId) : Prop := l.stackTraces = false ∧ L ≤ 260 ∧ lw_At p s m meth c b9 L xs ∧ EX (fun q : Nat => s.heap.size ≤ q) s s.heap ∧ EN s ∧ va_K D vwCl (T3 cI cZ cD) s
def LI (s : State) (D : va_G) (cI cZ cD : ClassId) (a b : Nat → Nat) (k : Nat) (H : Heap) (locs : List Loc) (d : Drawn) (u w : Bt) : Prop := Inv k (dat u) ∧ dat w = dat u ∧ va_P D vwCl (XU a cI cZ cD u ++ XU b cI cZ cD w) H ∧ va_D (fun q : Nat => s.heap.size ≤ q) (XU a cI cZ cD u ++ XU b cI cZ cD w) ∧ va_S (fun q : Nat => s.heap.size ≤ q) s.heap H locs ∧ s.drawn.sameBut d lw_cs
def LInv (s : State) (D : va_G) (cI cZ cD : ClassId) (a b : Nat → Nat) (b9 i : Nat) (H : Heap) (locs : List Loc) (ls : Array Slot) (d : Drawn) : Prop := ∃ u w : Bt, LI s D cI cZ cD a b (3 * i) H locs d u w ∧ lv_has ls 8 [(4, .int (nI i)), (3, .int (nI 1)), (0, .ref b9), (1, .ref (a 0)), (2, .ref (b 0))]
theorem nI_f {j : Nat} : nI 1 + nI j = nI (1 + j) := nI_add 1 j
set_option maxHeartbeats 4000000 in
set_option maxRecDepth 100000 in
theorem law_238 {p : Program} {l : Launch} {e : Env} {s : State} {m : MethodId} {below : List Frame} {meth : Method} {c : Code} {b9 L : Nat} {xs : Nat → Int32} {D : va_G} {cI cZ cD : ClassId} (C : LC l p s m meth c b9 L xs D cI cZ cD) {a b : Nat → Nat} {i : Nat} (hi : i < 110) {v : Int32} {u w : Bt} {k : Nat} (hk : k + 0 ≤ 3 * (i + 1)) {H : Heap} {locs : List Loc} {ls : Array Slot} {d : Drawn} (hI : LI s D cI cZ cD a b k H locs d u w) (hl : lv_has ls 8 [(5, .int v), (4, .int (nI i)), (3, .int (nI 1)), (0, .ref b9), (1, .ref (a 0)), (2, .ref (b 0))]) (nx : ∀ (H' : Heap) (locs' : List Loc) (ls' : Array Slot) (d' : Drawn), LInv s D cI cZ cD a b b9 (i + 1) H' locs' ls' d' → W p l e room_1 (s.setDrawn d') m #[Value.ref b9] below meth c H' locs' (34 + 60 * (i + 1)) (3952 + 400 * (i + 1)) (lw_Z below #[Value.ref b9] s) (F0 m 21 ls' [])) : W p l e room_1 (s.setDrawn d) m #[Value.ref b9] below meth c H locs (34 + 60 * i + 44) (3952 + 400 * i + 262) (lw_Z below #[Value.ref b9] s) (F0 m 238 ls []) := by
  have hC := C
  obtain ⟨hst, hL, C0, hE, hN, hK⟩ := hC
  obtain ⟨hx, hb, hr, hml, hown, hts0, hX, hbl, hlocks, hgv⟩ := C0
  have hts : ∀ w ∈ wsL_law, w.before #[Value.ref b9] s = true := fun w h => hts0 w (wsL_law_in w h)
  have hA : ∀ q : Nat, s.heap.size ≤ q → (fun q : Nat => s.heap.size ≤ q) q := fun q h => h
  have hbA : ¬ (fun q : Nat => s.heap.size ≤ q) b9 := Nat.not_le.mpr hbl
  obtain ⟨I0, heq, hP, hD, hS, hdl⟩ := hI
  have hok := I0.1
  have hn60 : b_n u ≤ 60 := hok.1
  refine lv_iinc (v := nI (i + 1)) (lv' := [(4, .int (nI (i + 1))), (5, .int v), (3, .int (nI 1)), (0, .ref b9), (1, .ref (a 0)), (2, .ref (b 0))]) hx hb dL_law_238 hl (k := 1) rfl (nI_1 i) (by decide) rfl (fun ls hl => ?_)
  refine lv_goto (tgt := 21) hx hb dL_law_241 (by decide) ?_
  refine W.widen (k := 34 + 60 * (i + 1)) (n := 3952 + 400 * (i + 1)) (by omega) (by omega) ?_
  exact nx _ _ _ _ ⟨u, w, ⟨I0.le hk, heq, hP, hD, hS, hdl⟩, lv_sub hl [0, 2, 3, 4, 5] rfl⟩
set_option maxHeartbeats 4000000 in
set_option maxRecDepth 100000 in
theorem law_178 {p : Program} {l : Launch} {e : Env} {s : State} {m : MethodId} {below : List Frame} {meth : Method} {c : Code} {b9 L : Nat} {xs : Nat → Int32} {D : va_G} {cI cZ cD : ClassId} (C : LC l p s m meth c b9 L xs D cI cZ cD) {a b : Nat → Nat} {i : Nat} (hi : i < 110) {v : Int32} {u w : Bt} {k : Nat} (hk : k + 1 ≤ 3 * (i + 1)) {H : Heap} {locs : List Loc} {ls : Array Slot} {d : Drawn} (hI : LI s D cI cZ cD a b k H locs d u w) (hl : lv_has ls 8 [(5, .int v), (4, .int (nI i)), (3, .int (nI 1)), (0, .ref b9), (1, .ref (a 0)), (2, .ref (b 0))]) (nx : ∀ (H' : Heap) (locs' : List Loc) (ls' : Array Slot) (d' : Drawn), LInv s D cI cZ cD a b b9 (i + 1) H' locs' ls' d' → W p l e room_1 (s.setDrawn d') m #[Value.ref b9] below meth c H' locs' (34 + 60 * (i + 1)) (3952 + 400 * (i + 1)) (lw_Z below #[Value.ref b9] s) (F0 m 21 ls' [])) : W p l e room_1 (s.setDrawn d) m #[Value.ref b9] below meth c H locs (34 + 60 * i + 38) (3952 + 400 * i + 226) (lw_Z below #[Value.ref b9] s) (F0 m 178 ls []) := by
  have hC := C
  obtain ⟨hst, hL, C0, hE, hN, hK⟩ := hC
  obtain ⟨hx, hb, hr, hml, hown, hts0, hX, hbl, hlocks, hgv⟩ := C0
  have hts : ∀ w ∈ wsL_law, w.before #[Value.ref b9] s = true := fun w h => hts0 w (wsL_law_in w h)
  have hA : ∀ q : Nat, s.heap.size ≤ q → (fun q : Nat => s.heap.size ≤ q) q := fun q h => h
  have hbA : ¬ (fun q : Nat => s.heap.size ≤ q) b9 := Nat.not_le.mpr hbl
  obtain ⟨I0, heq, hP, hD, hS, hdl⟩ := hI
  have hok := I0.1
  have hn60 : b_n u ≤ 60 := hok.1
  refine lv_iload hx hb dL_law_178 (lv_at hl 1 rfl) ?_
  refine lv_bipush (v := nI 7) hx hb dL_law_180 (by decide) ?_
  refine lv_irem hx hb dL_law_182 (by decide) ?_
  refine xk_i (y := nI (i % 7)) (pk_rem (by omega) (by omega) (by omega)) ?_
  refine lv_iconst (v := nI 4) hx hb dL_law_183 (by decide) ?_
  refine lv_icmp_ne (tgt := 238) hx hb dL_law_184 (by decide) (fun c => ?_) (fun c => ?_)
  · skip
    refine W.widen (k := 34 + 60 * i + 44) (n := 3952 + 400 * i + 262) (by omega) (by omega) ?_
    exact law_238 C hi (by omega) ⟨I0, heq, hP, hD, hS, hdl⟩ (lv_sub hl [0, 1, 2, 3, 4, 5] rfl) nx
  · skip
    refine lv_iload_n hx hb dL_law_187 rfl (lv_at hl 2 rfl) ?_
    refine lv_if_eq (tgt := 236) hx hb dL_law_188 (by decide) (fun c => by first | exact absurd c (by decide) | exact absurd rfl c | exact (c (by decide)).elim) (fun c => ?_)
    refine lv_aload_n hx hb dL_law_191 rfl (lv_at hl 4 rfl) ?_
    refine lv_aload_n hx hb dL_law_192 rfl (lv_at hl 5 rfl) ?_
    refine lv_iload hx hb dL_law_193 (lv_at hl 0 rfl) ?_
    refine lv_bipush (v := nI 6) hx hb dL_law_195 (by decide) ?_
    refine lv_ishr hx hb dL_law_197 ?_
    refine lv_iconst (v := nI 5) hx hb dL_law_198 (by decide) ?_
    refine vp_callSi (va_Run.run (va_runS (As := [.int (sr v 6), .int (nI 5)]) (rest := [.ref (b 0), .ref (a 0)]) ⟨hx, hb, hml, (xk_od hown), (dr_words hts _)⟩ (mL_low l (sr v 6) (nI 5) (by decide)) (va_cwS 2 (dr_words hts _) gL_law_L_low rfl rfl rfl (by decide +kernel) ⟨Nat.le_of_ble_eq_true rfl, Nat.le_of_ble_eq_true rfl⟩) ⟨fun a U g mk q => q, fun U hU hW => ⟨rfl, trivial⟩⟩ rfl rfl hl.1 rfl (lv_room (Nat.le_of_ble_eq_true rfl)) dL_law_199 ⟨(by show _ ≤ 621232; omega), (by show _ ≤ 7237773; omega)⟩)) (fun r hr1 => ?_)
    subst hr1
    obtain ⟨o, ho, eo⟩ := lowS_nI ((sr v 6)) (k := 5) (by decide) (by decide)
    refine xk_i (y := nI o) eo ?_
    refine lv_iload hx hb dL_law_202 (lv_at hl 0 rfl) ?_
    refine lv_bipush (v := nI 9) hx hb dL_law_204 (by decide) ?_
    refine lv_ishr hx hb dL_law_206 ?_
    refine lv_aload_n hx hb dL_law_207 rfl (lv_at hl 4 rfl) ?_
    have hPx : va_P D vwCl (XU a cI cZ cD u) H := hP.sub [0, 1, 2, 3, 4, 5, 6, 7, 8, 9, 10, 11, 12, 13, 14, 15, 16] rfl
    have hDx : va_D (fun q : Nat => s.heap.size ≤ q) (XU a cI cZ cD u) := hD.sub [0, 1, 2, 3, 4, 5, 6, 7, 8, 9, 10, 11, 12, 13, 14, 15, 16] (by decide) rfl
    refine vp_callSi (va_Run.run (va_runV (As := []) (rest := [.int (sr v 9), .int (nI o), .ref (b 0), .ref (a 0)]) ⟨hx, hb, hml, (xk_od hown), (dr_words hts _)⟩ (mX1_closedV l D cI cZ cD a _ u.1 u.2.1 u.2.2.1 u.2.2.2.1 u.2.2.2.2.1 u.2.2.2.2.2.1 u.2.2.2.2.2.2.1 u.2.2.2.2.2.2.2.1 u.2.2.2.2.2.2.2.2.1 u.2.2.2.2.2.2.2.2.2.1 (nI u.2.2.2.2.2.2.2.2.2.2.1) (nI u.2.2.2.2.2.2.2.2.2.2.2.1) u.2.2.2.2.2.2.2.2.2.2.2.2.1 u.2.2.2.2.2.2.2.2.2.2.2.2.2.1 u.2.2.2.2.2.2.2.2.2.2.2.2.2.2.1 u.2.2.2.2.2.2.2.2.2.2.2.2.2.2.2.1 u.2.2.2.2.2.2.2.2.2.2.2.2.2.2.2.2.1 u.2.2.2.2.2.2.2.2.2.2.2.2.2.2.2.2.2.1 u.2.2.2.2.2.2.2.2.2.2.2.2.2.2.2.2.2.2.1 u.2.2.2.2.2.2.2.2.2.2.2.2.2.2.2.2.2.2.2 ) (cwV 0 (dr_words hts _) gL_law_X1_closed rfl rfl rfl (by decide +kernel) ⟨Nat.le_of_ble_eq_true rfl, Nat.le_of_ble_eq_true rfl⟩) ⟨xk_blind, va_recv (xk_Kd hK) hP (ci := 1) (q0 := 0) rfl rfl, xk_pre hPx (xk_Kd hK) hDx⟩ rfl rfl hl.1 rfl (lv_room (Nat.le_of_ble_eq_true rfl)) dL_law_208 ⟨(by show _ ≤ 621232; omega), (by show _ ≤ 7237773; omega)⟩)) (fun r hr1 => ?_)
    refine xk_i (y := nI (b_n u)) hr1 ?_
    refine lv_iconst (v := nI 1) hx hb dL_law_211 (by decide) ?_
    refine lv_iadd hx hb dL_law_212 ?_
    refine vp_callSi (va_Run.run (va_runS (As := [.int (sr v 9), .int (nI (b_n u) + nI 1)]) (rest := [.int (nI o), .ref (b 0), .ref (a 0)]) ⟨hx, hb, hml, (xk_od hown), (dr_words hts _)⟩ (mL_low l (sr v 9) (nI (b_n u) + nI 1) (n1_ne hn60)) (va_cwS 2 (dr_words hts _) gL_law_L_low rfl rfl rfl (by decide +kernel) ⟨Nat.le_of_ble_eq_true rfl, Nat.le_of_ble_eq_true rfl⟩) ⟨fun a U g mk q => q, fun U hU hW => ⟨rfl, trivial⟩⟩ rfl rfl hl.1 rfl (lv_room (Nat.le_of_ble_eq_true rfl)) dL_law_213 ⟨(by show _ ≤ 621232; omega), (by show _ ≤ 7237773; omega)⟩)) (fun r hr1 => ?_)
    subst hr1
    refine lv_iload hx hb dL_law_216 (lv_at hl 0 rfl) ?_
    refine lv_bipush (v := nI 12) hx hb dL_law_218 (by decide) ?_
    refine lv_ishr hx hb dL_law_220 ?_
    refine lv_bipush (v := nI 51) hx hb dL_law_221 (by decide) ?_
    refine vp_callSi (va_Run.run (va_runS (As := [.int (sr v 12), .int (nI 51)]) (rest := [.int (lowS (sr v 9) (nI (b_n u) + nI 1)), .int (nI o), .ref (b 0), .ref (a 0)]) ⟨hx, hb, hml, (xk_od hown), (dr_words hts _)⟩ (mL_low l (sr v 12) (nI 51) (by decide)) (va_cwS 2 (dr_words hts _) gL_law_L_low rfl rfl rfl (by decide +kernel) ⟨Nat.le_of_ble_eq_true rfl, Nat.le_of_ble_eq_true rfl⟩) ⟨fun a U g mk q => q, fun U hU hW => ⟨rfl, trivial⟩⟩ rfl rfl hl.1 rfl (lv_room (Nat.le_of_ble_eq_true rfl)) dL_law_223 ⟨(by show _ ≤ 621232; omega), (by show _ ≤ 7237773; omega)⟩)) (fun r hr1 => ?_)
    subst hr1
    obtain ⟨y, hy, ey⟩ := lowS_nI ((sr v 12)) (k := 51) (by decide) (by decide)
    refine xk_i (y := nI y) ey ?_
    obtain ⟨al1, al2, al3⟩ := alk_ok I0 (lowS (sr v 9) (nI (b_n u) + nI 1))
    obtain ⟨bl1, bl2, bl3, bl4⟩ := al3 o ho
    have hFc := va_free (wc := XU a cI cZ cD u ++ XU b cI cZ cD w) hD hS hA [0, 1, 2, 3, 4, 5, 6, 7, 8, 9, 10, 11, 12, 13, 14, 15, 16, 17, 18, 19, 20, 21, 22, 23, 24, 25, 26, 27, 28, 29, 30, 31, 32, 33] rfl
    refine va_calliD hdl (va_runS_D (As := [.ref (a 0), .ref (b 0), .int (nI o), .int (lowS (sr v 9) (nI (b_n u) + nI 1)), .int (nI y)]) (rest := []) ⟨hx, hb, hml, (xk_od hown), (dr_words hts _)⟩ (mL_isReplacedSo l hst D cI cZ cD a b _ u w o (lowS (sr v 9) (nI (b_n u) + nI 1)) (nI y) ho hok heq bl1 bl2 bl4 (fun j ej hj hg => (rep_ok (by omega) I0 ho hj (by omega)).1)) (va_cwS 5 (dr_words hts _) gL_law_L_isReplacedSo rfl rfl rfl (by decide +kernel) ⟨Nat.le_of_ble_eq_true rfl, Nat.le_of_ble_eq_true rfl⟩) ⟨lp_blind, lp_pre hP (xk_Kd hK) hD hE.drawn hN.drawn hS hFc⟩ rfl rfl hl.1 rfl (lv_room (Nat.le_of_ble_eq_true rfl)) dL_law_226 ⟨(by show _ ≤ 621232; omega), (by show _ ≤ 7237773; omega)⟩) hS (fun q _ h => hFc q h) hFc (fun r z t9 H locs ht hvm hw9 hB hz1 hk1 hS _ hd1 => ?_)
    obtain ⟨u1, w1⟩ := z
    obtain ⟨rfl, g1, g2⟩ := hw9
    dsimp only at g1 g2
    obtain ⟨hP, -, hD1⟩ := hB
    rw [ht] at hP
    have hP : va_P D vwCl (XU a cI cZ cD u1 ++ XU b cI cZ cD w1) H := hP
    have hD : va_D (fun q : Nat => s.heap.size ≤ q) (XU a cI cZ cD u1 ++ XU b cI cZ cD w1) := hD1.weaken (fun _ _ _ h => hFc _ h)
    refine lv_if_eq (tgt := 236) hx hb dL_law_229 (by decide) (fun c => by first | exact absurd c (by decide) | exact absurd rfl c | exact (c (by decide)).elim) (fun c => ?_)
    refine lv_iconst (v := nI 1) hx hb dL_law_232 (by decide) ?_
    refine lv_goto (tgt := 237) hx hb dL_law_233 (by decide) ?_
    refine lv_istore_n (lv' := [(3, .int (nI 1)), (5, .int v), (4, .int (nI i)), (0, .ref b9), (1, .ref (a 0)), (2, .ref (b 0))]) hx hb dL_law_237 rfl hl (by decide) rfl (fun ls hl => ?_)
    refine W.widen (k := 34 + 60 * i + 44) (n := 3952 + 400 * i + 262) (by omega) (by omega) ?_
    exact law_238 C hi (k := k + 1) (by omega) ⟨(by rw [g1]; exact (sRe_ok (by omega) I0 _ _ _).1), (g2.trans g1.symm), hP, hD, hS, hd1⟩ (lv_sub hl [1, 2, 0, 3, 4, 5] rfl) nx
set_option maxHeartbeats 4000000 in
set_option maxRecDepth 100000 in
theorem law_118 {p : Program} {l : Launch} {e : Env} {s : State} {m : MethodId} {below : List Frame} {meth : Method} {c : Code} {b9 L : Nat} {xs : Nat → Int32} {D : va_G} {cI cZ cD : ClassId} (C : LC l p s m meth c b9 L xs D cI cZ cD) {a b : Nat → Nat} {i : Nat} (hi : i < 110) {v : Int32} {u w : Bt} {k : Nat} (hk : k + 2 ≤ 3 * (i + 1)) {H : Heap} {locs : List Loc} {ls : Array Slot} {d : Drawn} (hI : LI s D cI cZ cD a b k H locs d u w) (hl : lv_has ls 8 [(5, .int v), (4, .int (nI i)), (3, .int (nI 1)), (0, .ref b9), (1, .ref (a 0)), (2, .ref (b 0))]) (nx : ∀ (H' : Heap) (locs' : List Loc) (ls' : Array Slot) (d' : Drawn), LInv s D cI cZ cD a b b9 (i + 1) H' locs' ls' d' → W p l e room_1 (s.setDrawn d') m #[Value.ref b9] below meth c H' locs' (34 + 60 * (i + 1)) (3952 + 400 * (i + 1)) (lw_Z below #[Value.ref b9] s) (F0 m 21 ls' [])) : W p l e room_1 (s.setDrawn d) m #[Value.ref b9] below meth c H locs (34 + 60 * i + 34) (3952 + 400 * i + 204) (lw_Z below #[Value.ref b9] s) (F0 m 118 ls []) := by
  have hC := C
  obtain ⟨hst, hL, C0, hE, hN, hK⟩ := hC
  obtain ⟨hx, hb, hr, hml, hown, hts0, hX, hbl, hlocks, hgv⟩ := C0
  have hts : ∀ w ∈ wsL_law, w.before #[Value.ref b9] s = true := fun w h => hts0 w (wsL_law_in w h)
  have hA : ∀ q : Nat, s.heap.size ≤ q → (fun q : Nat => s.heap.size ≤ q) q := fun q h => h
  have hbA : ¬ (fun q : Nat => s.heap.size ≤ q) b9 := Nat.not_le.mpr hbl
  obtain ⟨I0, heq, hP, hD, hS, hdl⟩ := hI
  have hok := I0.1
  have hn60 : b_n u ≤ 60 := hok.1
  refine lv_iload hx hb dL_law_118 (lv_at hl 1 rfl) ?_
  refine lv_bipush (v := nI 6) hx hb dL_law_120 (by decide) ?_
  refine lv_irem hx hb dL_law_122 (by decide) ?_
  refine xk_i (y := nI (i % 6)) (pk_rem (by omega) (by omega) (by omega)) ?_
  refine lv_iconst (v := nI 5) hx hb dL_law_123 (by decide) ?_
  refine lv_icmp_ne (tgt := 178) hx hb dL_law_124 (by decide) (fun c => ?_) (fun c => ?_)
  · skip
    refine W.widen (k := 34 + 60 * i + 38) (n := 3952 + 400 * i + 226) (by omega) (by omega) ?_
    exact law_178 C hi (by omega) ⟨I0, heq, hP, hD, hS, hdl⟩ (lv_sub hl [0, 1, 2, 3, 4, 5] rfl) nx
  · skip
    refine lv_iload_n hx hb dL_law_127 rfl (lv_at hl 2 rfl) ?_
    refine lv_if_eq (tgt := 176) hx hb dL_law_128 (by decide) (fun c => by first | exact absurd c (by decide) | exact absurd rfl c | exact (c (by decide)).elim) (fun c => ?_)
    refine lv_aload_n hx hb dL_law_131 rfl (lv_at hl 4 rfl) ?_
    refine lv_aload_n hx hb dL_law_132 rfl (lv_at hl 5 rfl) ?_
    refine lv_iconst (v := nI 1) hx hb dL_law_133 (by decide) ?_
    refine lv_iload hx hb dL_law_134 (lv_at hl 0 rfl) ?_
    refine lv_iconst (v := nI 5) hx hb dL_law_136 (by decide) ?_
    refine lv_ishr hx hb dL_law_137 ?_
    refine lv_iconst (v := nI 3) hx hb dL_law_138 (by decide) ?_
    refine lv_iand hx hb dL_law_139 ?_
    obtain ⟨j3, hj3, e3⟩ := pk_andE (sr v 5) (m := nI 3) 2 (by decide)
    refine xk_i (y := nI j3) e3 ?_
    refine lv_iadd hx hb dL_law_140 ?_
    refine xk_i (y := nI (1 + j3)) nI_f ?_
    refine lv_iload hx hb dL_law_141 (lv_at hl 0 rfl) ?_
    refine lv_bipush (v := nI 8) hx hb dL_law_143 (by decide) ?_
    refine lv_ishr hx hb dL_law_145 ?_
    refine lv_iload hx hb dL_law_146 (lv_at hl 0 rfl) ?_
    refine lv_bipush (v := nI 17) hx hb dL_law_148 (by decide) ?_
    refine lv_ishr hx hb dL_law_150 ?_
    refine lv_iconst (v := nI 1) hx hb dL_law_151 (by decide) ?_
    refine lv_iand hx hb dL_law_152 ?_
    refine lv_if_ne (tgt := 161) hx hb dL_law_153 (by decide) (fun c1 => ?_) (fun c1 => ?_)
    · skip
      refine lv_bipush (v := nI 30) hx hb dL_law_161 (by decide) ?_
      refine vp_callSi (va_Run.run (va_runS (As := [.int (sr v 8), .int (nI 30)]) (rest := [.int (nI (1 + j3)), .ref (b 0), .ref (a 0)]) ⟨hx, hb, hml, (xk_od hown), (dr_words hts _)⟩ (mL_low l (sr v 8) (nI 30) (by decide)) (va_cwS 2 (dr_words hts _) gL_law_L_low rfl rfl rfl (by decide +kernel) ⟨Nat.le_of_ble_eq_true rfl, Nat.le_of_ble_eq_true rfl⟩) ⟨fun a U g mk q => q, fun U hU hW => ⟨rfl, trivial⟩⟩ rfl rfl hl.1 rfl (lv_room (Nat.le_of_ble_eq_true rfl)) dL_law_163 ⟨(by show _ ≤ 621232; omega), (by show _ ≤ 7237773; omega)⟩)) (fun r hr1 => ?_)
      subst hr1
      obtain ⟨x, hx9, ex⟩ := lowS_nI ((sr v 8)) (k := 30) (by decide) (by decide)
      refine xk_i (y := nI x) ex ?_
      obtain ⟨hpr, -⟩ := pB_ok (k := 1 + j3) (by omega) (by omega)
      have Ip := prS_ok I0 hpr
      have hFc := va_free (wc := XU a cI cZ cD u ++ XU b cI cZ cD w) hD hS hA [0, 1, 2, 3, 4, 5, 6, 7, 8, 9, 10, 11, 12, 13, 14, 15, 16, 17, 18, 19, 20, 21, 22, 23, 24, 25, 26, 27, 28, 29, 30, 31, 32, 33] rfl
      refine va_calliD hdl (va_runS_D (As := [.ref (a 0), .ref (b 0), .int (nI (1 + j3)), .int (nI x)]) (rest := []) ⟨hx, hb, hml, (xk_od hown), (dr_words hts _)⟩ (mL_isClosedSo l hst D cI cZ cD a b _ u w (1 + j3) x ⟨by omega, by omega⟩ (by omega) hok heq (alk_ok I0 0).1 (fun hn => (close_ok (by omega) Ip hn (by omega)).2)) (va_cwS 4 (dr_words hts _) gL_law_L_isClosedSo rfl rfl rfl (by decide +kernel) ⟨Nat.le_of_ble_eq_true rfl, Nat.le_of_ble_eq_true rfl⟩) ⟨lp_blind, lp_pre hP (xk_Kd hK) hD hE.drawn hN.drawn hS hFc⟩ rfl rfl hl.1 rfl (lv_room (Nat.le_of_ble_eq_true rfl)) dL_law_166 ⟨(by show _ ≤ 621232; omega), (by show _ ≤ 7237773; omega)⟩) hS (fun q _ h => hFc q h) hFc (fun r z t9 H locs ht hvm hw9 hB hz1 hk1 hS _ hd1 => ?_)
      obtain ⟨u1, w1⟩ := z
      obtain ⟨rfl, g1, g2⟩ := hw9
      dsimp only at g1 g2
      obtain ⟨hP, -, hD1⟩ := hB
      rw [ht] at hP
      have hP : va_P D vwCl (XU a cI cZ cD u1 ++ XU b cI cZ cD w1) H := hP
      have hD : va_D (fun q : Nat => s.heap.size ≤ q) (XU a cI cZ cD u1 ++ XU b cI cZ cD w1) := hD1.weaken (fun _ _ _ h => hFc _ h)
      refine lv_if_eq (tgt := 176) hx hb dL_law_169 (by decide) (fun c => by first | exact absurd c (by decide) | exact absurd rfl c | exact (c (by decide)).elim) (fun c => ?_)
      refine lv_iconst (v := nI 1) hx hb dL_law_172 (by decide) ?_
      refine lv_goto (tgt := 177) hx hb dL_law_173 (by decide) ?_
      refine lv_istore_n (lv' := [(3, .int (nI 1)), (5, .int v), (4, .int (nI i)), (0, .ref b9), (1, .ref (a 0)), (2, .ref (b 0))]) hx hb dL_law_177 rfl hl (by decide) rfl (fun ls hl => ?_)
      refine W.widen (k := 34 + 60 * i + 38) (n := 3952 + 400 * i + 226) (by omega) (by omega) ?_
      exact law_178 C hi (k := k + 1) (by omega) ⟨(by rw [g1]; exact (sCl_ok (by omega) Ip _).1), (g2.trans g1.symm), hP, hD, hS, hd1⟩ (lv_sub hl [1, 2, 0, 3, 4, 5] rfl) nx
    · skip
      refine lv_bipush (v := nI 101) hx hb dL_law_156 (by decide) ?_
      refine lv_goto (tgt := 163) hx hb dL_law_158 (by decide) ?_
      refine vp_callSi (va_Run.run (va_runS (As := [.int (sr v 8), .int (nI 101)]) (rest := [.int (nI (1 + j3)), .ref (b 0), .ref (a 0)]) ⟨hx, hb, hml, (xk_od hown), (dr_words hts _)⟩ (mL_low l (sr v 8) (nI 101) (by decide)) (va_cwS 2 (dr_words hts _) gL_law_L_low rfl rfl rfl (by decide +kernel) ⟨Nat.le_of_ble_eq_true rfl, Nat.le_of_ble_eq_true rfl⟩) ⟨fun a U g mk q => q, fun U hU hW => ⟨rfl, trivial⟩⟩ rfl rfl hl.1 rfl (lv_room (Nat.le_of_ble_eq_true rfl)) dL_law_163 ⟨(by show _ ≤ 621232; omega), (by show _ ≤ 7237773; omega)⟩)) (fun r hr1 => ?_)
      subst hr1
      obtain ⟨x, hx9, ex⟩ := lowS_nI ((sr v 8)) (k := 101) (by decide) (by decide)
      refine xk_i (y := nI x) ex ?_
      obtain ⟨hpr, -⟩ := pB_ok (k := 1 + j3) (by omega) (by omega)
      have Ip := prS_ok I0 hpr
      have hFc := va_free (wc := XU a cI cZ cD u ++ XU b cI cZ cD w) hD hS hA [0, 1, 2, 3, 4, 5, 6, 7, 8, 9, 10, 11, 12, 13, 14, 15, 16, 17, 18, 19, 20, 21, 22, 23, 24, 25, 26, 27, 28, 29, 30, 31, 32, 33] rfl
      refine va_calliD hdl (va_runS_D (As := [.ref (a 0), .ref (b 0), .int (nI (1 + j3)), .int (nI x)]) (rest := []) ⟨hx, hb, hml, (xk_od hown), (dr_words hts _)⟩ (mL_isClosedSo l hst D cI cZ cD a b _ u w (1 + j3) x ⟨by omega, by omega⟩ (by omega) hok heq (alk_ok I0 0).1 (fun hn => (close_ok (by omega) Ip hn (by omega)).2)) (va_cwS 4 (dr_words hts _) gL_law_L_isClosedSo rfl rfl rfl (by decide +kernel) ⟨Nat.le_of_ble_eq_true rfl, Nat.le_of_ble_eq_true rfl⟩) ⟨lp_blind, lp_pre hP (xk_Kd hK) hD hE.drawn hN.drawn hS hFc⟩ rfl rfl hl.1 rfl (lv_room (Nat.le_of_ble_eq_true rfl)) dL_law_166 ⟨(by show _ ≤ 621232; omega), (by show _ ≤ 7237773; omega)⟩) hS (fun q _ h => hFc q h) hFc (fun r z t9 H locs ht hvm hw9 hB hz1 hk1 hS _ hd2 => ?_)
      obtain ⟨u1, w1⟩ := z
      obtain ⟨rfl, g1, g2⟩ := hw9
      dsimp only at g1 g2
      obtain ⟨hP, -, hD1⟩ := hB
      rw [ht] at hP
      have hP : va_P D vwCl (XU a cI cZ cD u1 ++ XU b cI cZ cD w1) H := hP
      have hD : va_D (fun q : Nat => s.heap.size ≤ q) (XU a cI cZ cD u1 ++ XU b cI cZ cD w1) := hD1.weaken (fun _ _ _ h => hFc _ h)
      refine lv_if_eq (tgt := 176) hx hb dL_law_169 (by decide) (fun c => by first | exact absurd c (by decide) | exact absurd rfl c | exact (c (by decide)).elim) (fun c => ?_)
      refine lv_iconst (v := nI 1) hx hb dL_law_172 (by decide) ?_
      refine lv_goto (tgt := 177) hx hb dL_law_173 (by decide) ?_
      refine lv_istore_n (lv' := [(3, .int (nI 1)), (5, .int v), (4, .int (nI i)), (0, .ref b9), (1, .ref (a 0)), (2, .ref (b 0))]) hx hb dL_law_177 rfl hl (by decide) rfl (fun ls hl => ?_)
      refine W.widen (k := 34 + 60 * i + 38) (n := 3952 + 400 * i + 226) (by omega) (by omega) ?_
      exact law_178 C hi (k := k + 1) (by omega) ⟨(by rw [g1]; exact (sCl_ok (by omega) Ip _).1), (g2.trans g1.symm), hP, hD, hS, hd2⟩ (lv_sub hl [1, 2, 0, 3, 4, 5] rfl) nx
set_option maxHeartbeats 4000000 in
set_option maxRecDepth 100000 in
theorem law_82 {p : Program} {l : Launch} {e : Env} {s : State} {m : MethodId} {below : List Frame} {meth : Method} {c : Code} {b9 L : Nat} {xs : Nat → Int32} {D : va_G} {cI cZ cD : ClassId} (C : LC l p s m meth c b9 L xs D cI cZ cD) {a b : Nat → Nat} {i : Nat} (hi : i < 110) {v : Int32} {u w : Bt} {k : Nat} (hk : k + 2 ≤ 3 * (i + 1)) {H : Heap} {locs : List Loc} {ls : Array Slot} {d : Drawn} (hI : LI s D cI cZ cD a b k H locs d u w) (hl : lv_has ls 8 [(5, .int v), (4, .int (nI i)), (3, .int (nI 1)), (0, .ref b9), (1, .ref (a 0)), (2, .ref (b 0))]) (nx : ∀ (H' : Heap) (locs' : List Loc) (ls' : Array Slot) (d' : Drawn), LInv s D cI cZ cD a b b9 (i + 1) H' locs' ls' d' → W p l e room_1 (s.setDrawn d') m #[Value.ref b9] below meth c H' locs' (34 + 60 * (i + 1)) (3952 + 400 * (i + 1)) (lw_Z below #[Value.ref b9] s) (F0 m 21 ls' [])) : W p l e room_1 (s.setDrawn d) m #[Value.ref b9] below meth c H locs (34 + 60 * i + 2) (3952 + 400 * i + 12) (lw_Z below #[Value.ref b9] s) (F0 m 82 ls []) := by
  have hC := C
  obtain ⟨hst, hL, C0, hE, hN, hK⟩ := hC
  obtain ⟨hx, hb, hr, hml, hown, hts0, hX, hbl, hlocks, hgv⟩ := C0
  have hts : ∀ w ∈ wsL_law, w.before #[Value.ref b9] s = true := fun w h => hts0 w (wsL_law_in w h)
  have hA : ∀ q : Nat, s.heap.size ≤ q → (fun q : Nat => s.heap.size ≤ q) q := fun q h => h
  have hbA : ¬ (fun q : Nat => s.heap.size ≤ q) b9 := Nat.not_le.mpr hbl
  obtain ⟨I0, heq, hP, hD, hS, hdl⟩ := hI
  have hok := I0.1
  have hn60 : b_n u ≤ 60 := hok.1
  refine lv_iload hx hb dL_law_82 (lv_at hl 1 rfl) ?_
  refine lv_iconst (v := nI 5) hx hb dL_law_84 (by decide) ?_
  refine lv_irem hx hb dL_law_85 (by decide) ?_
  refine xk_i (y := nI (i % 5)) (pk_rem (by omega) (by omega) (by omega)) ?_
  refine lv_iconst (v := nI 3) hx hb dL_law_86 (by decide) ?_
  refine lv_icmp_ne (tgt := 112) hx hb dL_law_87 (by decide) (fun c => ?_) (fun c => ?_)
  · skip
    refine lv_iconst (v := nI 1) hx hb dL_law_112 (by decide) ?_
    refine lv_goto (tgt := 117) hx hb dL_law_113 (by decide) ?_
    refine lv_istore_n (lv' := [(3, .int (nI 1)), (5, .int v), (4, .int (nI i)), (0, .ref b9), (1, .ref (a 0)), (2, .ref (b 0))]) hx hb dL_law_117 rfl hl (by decide) rfl (fun ls hl => ?_)
    refine W.widen (k := 34 + 60 * i + 34) (n := 3952 + 400 * i + 204) (by omega) (by omega) ?_
    exact law_118 C hi (by omega) ⟨I0, heq, hP, hD, hS, hdl⟩ (lv_sub hl [1, 2, 0, 3, 4, 5] rfl) nx
  · skip
    refine lv_aload_n hx hb dL_law_90 rfl (lv_at hl 4 rfl) ?_
    refine lv_aload_n hx hb dL_law_91 rfl (lv_at hl 5 rfl) ?_
    refine lv_iload hx hb dL_law_92 (lv_at hl 0 rfl) ?_
    refine lv_bipush (v := nI 6) hx hb dL_law_94 (by decide) ?_
    refine lv_ishr hx hb dL_law_96 ?_
    refine lv_aload_n hx hb dL_law_97 rfl (lv_at hl 4 rfl) ?_
    have hPx : va_P D vwCl (XU a cI cZ cD u) H := hP.sub [0, 1, 2, 3, 4, 5, 6, 7, 8, 9, 10, 11, 12, 13, 14, 15, 16] rfl
    have hDx : va_D (fun q : Nat => s.heap.size ≤ q) (XU a cI cZ cD u) := hD.sub [0, 1, 2, 3, 4, 5, 6, 7, 8, 9, 10, 11, 12, 13, 14, 15, 16] (by decide) rfl
    refine vp_callSi (va_Run.run (va_runV (As := []) (rest := [.int (sr v 6), .ref (b 0), .ref (a 0)]) ⟨hx, hb, hml, (xk_od hown), (dr_words hts _)⟩ (mX1_closedV l D cI cZ cD a _ u.1 u.2.1 u.2.2.1 u.2.2.2.1 u.2.2.2.2.1 u.2.2.2.2.2.1 u.2.2.2.2.2.2.1 u.2.2.2.2.2.2.2.1 u.2.2.2.2.2.2.2.2.1 u.2.2.2.2.2.2.2.2.2.1 (nI u.2.2.2.2.2.2.2.2.2.2.1) (nI u.2.2.2.2.2.2.2.2.2.2.2.1) u.2.2.2.2.2.2.2.2.2.2.2.2.1 u.2.2.2.2.2.2.2.2.2.2.2.2.2.1 u.2.2.2.2.2.2.2.2.2.2.2.2.2.2.1 u.2.2.2.2.2.2.2.2.2.2.2.2.2.2.2.1 u.2.2.2.2.2.2.2.2.2.2.2.2.2.2.2.2.1 u.2.2.2.2.2.2.2.2.2.2.2.2.2.2.2.2.2.1 u.2.2.2.2.2.2.2.2.2.2.2.2.2.2.2.2.2.2.1 u.2.2.2.2.2.2.2.2.2.2.2.2.2.2.2.2.2.2.2 ) (cwV 0 (dr_words hts _) gL_law_X1_closed rfl rfl rfl (by decide +kernel) ⟨Nat.le_of_ble_eq_true rfl, Nat.le_of_ble_eq_true rfl⟩) ⟨xk_blind, va_recv (xk_Kd hK) hP (ci := 1) (q0 := 0) rfl rfl, xk_pre hPx (xk_Kd hK) hDx⟩ rfl rfl hl.1 rfl (lv_room (Nat.le_of_ble_eq_true rfl)) dL_law_98 ⟨(by show _ ≤ 621232; omega), (by show _ ≤ 7237773; omega)⟩)) (fun r hr1 => ?_)
    refine xk_i (y := nI (b_n u)) hr1 ?_
    refine lv_iconst (v := nI 1) hx hb dL_law_101 (by decide) ?_
    refine lv_iadd hx hb dL_law_102 ?_
    refine vp_callSi (va_Run.run (va_runS (As := [.int (sr v 6), .int (nI (b_n u) + nI 1)]) (rest := [.ref (b 0), .ref (a 0)]) ⟨hx, hb, hml, (xk_od hown), (dr_words hts _)⟩ (mL_low l (sr v 6) (nI (b_n u) + nI 1) (n1_ne hn60)) (va_cwS 2 (dr_words hts _) gL_law_L_low rfl rfl rfl (by decide +kernel) ⟨Nat.le_of_ble_eq_true rfl, Nat.le_of_ble_eq_true rfl⟩) ⟨fun a U g mk q => q, fun U hU hW => ⟨rfl, trivial⟩⟩ rfl rfl hl.1 rfl (lv_room (Nat.le_of_ble_eq_true rfl)) dL_law_103 ⟨(by show _ ≤ 621232; omega), (by show _ ≤ 7237773; omega)⟩)) (fun r hr1 => ?_)
    subst hr1
    refine va_calli (va_runS (As := [.ref (a 0), .ref (b 0), .int (lowS (sr v 6) (nI (b_n u) + nI 1))]) (rest := []) ⟨hx, hb, hml, (xk_od hown), (dr_words hts _)⟩ (mL_areAlike l hst D cI cZ cD a b H u w (lowS (sr v 6) (nI (b_n u) + nI 1)) I0.1 heq (alk_ok I0 _)) (va_cwS 3 (dr_words hts _) gL_law_L_areAlike rfl rfl rfl (by decide +kernel) ⟨Nat.le_of_ble_eq_true rfl, Nat.le_of_ble_eq_true rfl⟩) ⟨zq_blind, zq_pre hP (xk_Kd hK) hD hE.drawn hN.drawn hS hA⟩ rfl rfl hl.1 rfl (lv_room (Nat.le_of_ble_eq_true rfl)) dL_law_106 ⟨(by show _ ≤ 621232; omega), (by show _ ≤ 7237773; omega)⟩) hS (fun q h1 h2 => absurd h2 (Nat.not_le.mpr h1)) (fun q h => Nat.le_trans hS.1 h) (fun r _ t9 H9 locs ht hvm hw9 hB hz1 hk1 hS => ?_)
    have hP : va_P D vwCl (XU a cI cZ cD u ++ XU b cI cZ cD w) H9 := hP.kept (fun k q hq => hk1 q.1 (hP k q hq).lt (Nat.not_le.mpr (hP k q hq).lt))
    generalize H9 = H at hP hS ⊢
    subst hw9
    refine lv_if_eq (tgt := 116) hx hb dL_law_109 (by decide) (fun c => by first | exact absurd c (by decide) | exact absurd rfl c | exact (c (by decide)).elim) (fun c => ?_)
    refine lv_iconst (v := nI 1) hx hb dL_law_112 (by decide) ?_
    refine lv_goto (tgt := 117) hx hb dL_law_113 (by decide) ?_
    refine lv_istore_n (lv' := [(3, .int (nI 1)), (5, .int v), (4, .int (nI i)), (0, .ref b9), (1, .ref (a 0)), (2, .ref (b 0))]) hx hb dL_law_117 rfl hl (by decide) rfl (fun ls hl => ?_)
    refine W.widen (k := 34 + 60 * i + 34) (n := 3952 + 400 * i + 204) (by omega) (by omega) ?_
    exact law_118 C hi (by omega) ⟨I0, heq, hP, hD, hS, hdl⟩ (lv_sub hl [1, 2, 0, 3, 4, 5] rfl) nx
