/-! GridCommonsModel: a quarter's closing -/
theorem po_self {α : Type} {b k : Nat} {f g : Nat → α} (h : ∀ j, j < k → f (b + j) = g j) : po b k f g = f := by
  funext j
  unfold po
  by_cases c : b ≤ j ∧ j < b + k
  · rw [if_pos c, ← h (j - b) (by omega), show b + (j - b) = j by omega]
  · rw [if_neg c]
theorem po_up {b k o : Nat} (f g : Nat → Dm) (d : Dm) (h : o < k) : va_up (po b k f g) (b + o) d = po b k f (va_up g o d) := by
  funext j
  unfold va_up po
  by_cases c : j = b + o
  · rw [if_pos c, if_pos (by omega)]
    show d = if j - b = o then d else g (j - b)
    rw [if_pos (by omega)]
  · rw [if_neg c]
    by_cases c2 : b ≤ j ∧ j < b + k
    · rw [if_pos c2, if_pos c2]
      show g (j - b) = if j - b = o then d else g (j - b)
      rw [if_neg (by omega)]
    · rw [if_neg c2, if_neg c2]
/-- how many may be shed -/
def cm (S : Nat → Int32) (V : Nat → Dm) : Nat → Nat
  | 0 => 0
  | k + 1 => cm S V k + (if may S V k then 1 else 0)
theorem cm_le (S : Nat → Int32) (V : Nat → Dm) : ∀ k, cm S V k ≤ k
  | 0 => Nat.le_refl 0
  | k + 1 => by
    have h := cm_le S V k
    show cm S V k + (if may S V k then 1 else 0) ≤ k + 1
    by_cases c : may S V k
    · rw [if_pos c]; omega
    · rw [if_neg c]; omega
theorem cm_up0 (S : Nat → Int32) (V : Nat → Dm) {o : Nat} {d : Dm} : ∀ k, k ≤ o → cm S (va_up V o d) k = cm S V k
  | 0, _ => rfl
  | k + 1, h => by
    show cm S (va_up V o d) k + (if may S (va_up V o d) k then 1 else 0) = cm S V k + (if may S V k then 1 else 0)
    rw [cm_up0 S V k (by omega)]
    have e : va_up V o d k = V k := if_neg (by omega)
    unfold may
    rw [e]
theorem dCmpZ : dCmp dZ dZ = some .eq := by decide +kernel
theorem cm_up (S : Nat → Int32) (V : Nat → Dm) {o : Nat} (hm : may S V o) : ∀ k, cm S (va_up V o dZ) (o + 1 + k) + 1 = cm S V (o + 1 + k)
  | 0 => by
    show cm S (va_up V o dZ) o + (if may S (va_up V o dZ) o then 1 else 0) + 1 = cm S V o + (if may S V o then 1 else 0)
    have e : va_up V o dZ o = dZ := if_pos rfl
    have hn : ¬ may S (va_up V o dZ) o := by
      intro q
      have q2 := q.2
      rw [e, dCmpZ] at q2
      cases q2
    rw [cm_up0 S V o (Nat.le_refl o), if_neg hn, if_pos hm]
  | k + 1 => by
    show cm S (va_up V o dZ) (o + 1 + k) + (if may S (va_up V o dZ) (o + 1 + k) then 1 else 0) + 1 = cm S V (o + 1 + k) + (if may S V (o + 1 + k) then 1 else 0)
    have e : va_up V o dZ (o + 1 + k) = V (o + 1 + k) := if_neg (by omega)
    have h := cm_up S V hm k
    have e2 : may S (va_up V o dZ) (o + 1 + k) ↔ may S V (o + 1 + k) := by
      unfold may
      rw [e]
    by_cases c : may S V (o + 1 + k)
    · rw [if_pos c, if_pos (e2.mpr c)]; omega
    · rw [if_neg c, if_neg (fun q => c (e2.mp q))]; omega
theorem cm_up5 {S : Nat → Int32} {V : Nat → Dm} {o : Nat} (ho : o < 5) (hm : may S V o) : cm S (va_up V o dZ) 5 + 1 = cm S V 5 := by
  have h := cm_up S V hm (4 - o)
  rw [show o + 1 + (4 - o) = 5 by omega] at h
  exact h
theorem cm_0 {S : Nat → Int32} {V : Nat → Dm} : ∀ {k o : Nat}, o < k → may S V o → 1 ≤ cm S V k
  | 0, o, h, _ => absurd h (Nat.not_lt_zero o)
  | k + 1, o, h, hm => by
    show 1 ≤ cm S V k + (if may S V k then 1 else 0)
    by_cases c : o = k
    · subst c; rw [if_pos hm]; omega
    · have := cm_0 (k := k) (by omega) hm
      omega
def sF (sun : Int32) (sh : Nat → Int32) (V : Nat → Dm) (k : Nat) : Dm := if noNeed (kV2 sun sh V) then uS sun sh V k else dAdd (uS sun sh V k) (gE (kV2 sun sh V) (kL1 sun sh V) k)
theorem fn_sub {n i : Nat} (h : i < n) : nI n - nI (i + 1) = nI (n - 1 - i) := by rw [pk_sub (by omega), show n - (i + 1) = n - 1 - i by omega]
set_option maxHeartbeats 4000000 in
set_option maxRecDepth 100000 in
theorem mX2_guess (l : Launch) (D : va_G) (cI cZ cD : ClassId) (b : Nat → Nat) (sz : Nat) (mth : Int32) (msh mst msd : Nat → Int32) (mbi : Nat → UInt64) (mpr mba : UInt64) (mtn : Int32) (mat mto mak : Nat → Int32) (mus mud mfs mfb mbo mso mpc mne : Nat → UInt64) (o n : Nat) (ho : o < 5) (hn : n ≤ 60) : MetD lw_cs l yX2_guess wsX2_guess ({ frames := 0, cells := 0, slots := 0, locals := 0 } : Room) (va_Pc [.ref (b 0), .int (nI o)] (XP D cI cZ cD (MW b cI cZ cD mth msh mst msd mbi mpr mba mtn (nI n) mat mto mak mus mud mfs mfb mbo mso mpc mne) sz)) (va_Qd (fun (r : UInt64) (u : Unit) => dt r = guess mak (dts mus) o n) (fun (u : Unit) t => XB D cI cZ cD (MW b cI cZ cD mth msh mst msd mbi mpr mba mtn (nI n) mat mto mak mus mud mfs mfb mbo mso mpc mne) (va_A (MW b cI cZ cD mth msh mst msd mbi mpr mba mtn (nI n) mat mto mak mus mud mfs mfb mbo mso mpc mne) sz) t) (va_A (MW b cI cZ cD mth msh mst msd mbi mpr mba mtn (nI n) mat mto mak mus mud mfs mfb mbo mso mpc mne) sz)) 0 0 (va_A (MW b cI cZ cD mth msh mst msd mbi mpr mba mtn (nI n) mat mto mak mus mud mfs mfb mbo mso mpc mne) sz) := by
  refine MetD.ofW (cc := cX2_guess) (maxL := 6) (ret := (some .double)) (by decide +kernel) rfl ?_
  intro p e s m args below meth c s₁ B hml hv hd0
  obtain ⟨rfl, hsz, hP, hK, hD0⟩ := hv
  have hx := B.exec
  have hb := B.bytes
  have hr := B.returns
  have hts := atoms_spec (ws := wsX2_guess) B.pre
  have hown : s.vm.findClass RX2 = some m.cls := findClass_of_methodNamed B.named
  have hlocks := B.notSynchronized
  subst hsz
  have hD := hD0.self (sz := s.heap.size)
  generalize hAe : va_A (MW b cI cZ cD mth msh mst msd mbi mpr mba mtn (nI n) mat mto mak mus mud mfs mfb mbo mso mpc mne) s.heap.size = A at hD ⊢
  have hA : ∀ q : Nat, s.heap.size ≤ q → A q := fun q h => by rw [← hAe]; exact Or.inr h
  have hS : va_S A s.heap s.heap [] := va_S.rf
  have hl := lv_entry ([.ref (b 0), .int (nI o)]) (n := 6) (Nat.le_of_ble_eq_true rfl)
  rw [lg_entry_eq]
  generalize (lg_sl ([.ref (b 0), .int (nI o)]) ++ List.replicate (6 - (lg_sl ([.ref (b 0), .int (nI o)])).length) Slot.unset).toArray = ls at hl ⊢
  have hl : lv_has ls 6 [(0, .ref (b 0)), (1, .int (nI o))] := hl
  have inX2 : ∀ w ∈ wsX20, w ∈ wsX2_guess := by decide +kernel
  refine lv_iconst (v := nI 0) hx hb dX2_guess_0 (by decide) ?_
  refine lv_istore_n (lv' := [(2, .int (nI 0)), (0, .ref (b 0)), (1, .int (nI o))]) hx hb dX2_guess_1 rfl hl (by decide) rfl (fun ls hl => ?_)
  refine lv_dconst0 hx hb dX2_guess_2 ?_
  refine lv_dstore_n (lv' := [(3, .double FP.dconst0), (2, .int (nI 0)), (0, .ref (b 0)), (1, .int (nI o))]) hx hb dX2_guess_3 rfl hl (by decide) rfl (fun ls hl => ?_)
  refine lv_aload_n hx hb dX2_guess_4 rfl (lv_at hl 2 rfl) ?_
  refine va_get (D := D) (ci := 2) (v := .int (nI n)) (C := RX2) (T := TX2) (N := 20) hx hb (dr_words hts _) inX2 (xk_od hown) (xk_Kd hK) hP 0 rfl rfl 8 (by decide) (dr_words hts _ (.fieldLink RX2 84 "GridCommonsModel" "closed" "I") (by decide +kernel)) (fun _ h9 => h9) rfl dX2_guess_5 ?_
  refine lv_iconst (v := nI 1) hx hb dX2_guess_8 (by decide) ?_
  refine lv_isub hx hb dX2_guess_9 ?_
  refine lv_istore (lv' := [(5, .int ((nI n) - (nI 1))), (3, .double FP.dconst0), (2, .int (nI 0)), (0, .ref (b 0)), (1, .int (nI o))]) hx hb dX2_guess_10 hl (by decide) rfl (fun ls hl => ?_)
  refine xk_loop (fun i H locs ls d => ∃ (f : Nat) (x : UInt64), (f = (gst mak (dts mus) o n i).1) ∧ (dt x = (gst mak (dts mus) o n i).2) ∧ (va_P D vwCl (MW b cI cZ cD mth msh mst msd mbi mpr mba mtn (nI n) mat mto mak mus mud mfs mfb mbo mso mpc mne) H) ∧ (va_D A (MW b cI cZ cD mth msh mst msd mbi mpr mba mtn (nI n) mat mto mak mus mud mfs mfb mbo mso mpc mne)) ∧ (va_S A s.heap H locs) ∧ (s.drawn.sameBut d lw_cs) ∧ (lv_has ls 6 [(0, .ref (b 0)), (1, .int (nI o)), (2, .int (nI f)), (3, .double x), (5, .int (nI n - nI (i + 1)))])) n ?_ (i := 0) (Nat.zero_le _) ⟨0, FP.dconst0, rfl, rfl, hP, hD, hS, hd0, lv_sub hl [3, 4, 2, 1, 0] rfl⟩
  intro i H locs ls d hi hI next
  obtain ⟨f, x, hq0, hq1, hP, hD, hS, hdl, hl⟩ := hI
  have hf2 := gst_le mak (dts mus) o n i
  rw [← hq0] at hf2
  refine lv_iload hx hb dX2_guess_12 (lv_at hl 4 rfl) ?_
  refine lv_if_lt (tgt := 59) hx hb dX2_guess_14 (by decide) (fun c => ?_) (fun c => ?_)
  · skip
    have hin : i = n := by
      rcases Nat.lt_or_ge i n with q | q
      · have e5 : nI n - nI (i + 1) = nI (n - (i + 1)) := pk_sub (by omega)
        rw [e5] at c
        exact absurd c (nI_pos (by omega))
      · omega
    have e1 : f = (gst mak (dts mus) o n n).1 := by rw [hq0, hin]
    have e2 : dt x = (gst mak (dts mus) o n n).2 := by rw [hq1, hin]
    refine lv_iload_n hx hb dX2_guess_59 rfl (lv_at hl 2 rfl) ?_
    refine lv_iconst (v := nI 2) hx hb dX2_guess_60 (by decide) ?_
    refine lv_icmp_ne (tgt := 72) hx hb dX2_guess_61 (by decide) (fun c4 => ?_) (fun c4 => ?_)
    · skip
      refine lv_dload_n hx hb dX2_guess_72 rfl (lv_at hl 3 rfl) ?_
      have e9 : dt x = guess mak (dts mus) o n := by unfold guess; rw [if_neg (fun q => c4 (by rw [e1, q])), e2]
      refine W.endD hdl ?_
      exact W.dret hx hb hr (fun t ht hW => ⟨⟨_, (), rfl, e9, by rw [ht]; exact hP, va_K.moved hW.alike (xk_Kd hK), hD⟩, hS.F ht⟩) hS.2.2 dX2_guess_73
    · skip
      refine lv_dload_n hx hb dX2_guess_64 rfl (lv_at hl 3 rfl) ?_
      refine lv_ldc2d hx hb (xk_od hown) (dr_words hts _ (.constantDouble RX2 87 4611686018427387904) (by decide +kernel)) dX2_guess_65 ?_
      refine lv_ddiv_any hdl lw_bits hx hb dX2_guess_68 (fun r1 _ hal hd2 => ?_)
      have er1 := dt_div hal
      refine lv_goto (tgt := 73) hx hb dX2_guess_69 (by decide) ?_
      have e9 : dt r1 = guess mak (dts mus) o n := by unfold guess; rw [if_pos (by rw [← e1]; exact (nI_eq (by omega) (by omega)).mp c4), er1, e2]
      refine W.endD hd2 ?_
      exact W.dret hx hb hr (fun t ht hW => ⟨⟨_, (), rfl, e9, by rw [ht]; exact hP, va_K.moved hW.alike (xk_Kd hK), hD⟩, hS.F ht⟩) hS.2.2 dX2_guess_73
  · skip
    have hlt : i < n := by
      rcases Nat.lt_or_ge i n with q | q
      · exact q
      · exact absurd (pk_sneg (by omega) (by omega)) c
    refine lv_iload_n hx hb dX2_guess_17 rfl (lv_at hl 2 rfl) ?_
    refine lv_iconst (v := nI 2) hx hb dX2_guess_18 (by decide) ?_
    refine lv_icmp_ge (tgt := 59) hx hb dX2_guess_19 (by decide) (fun c2 => ?_) (fun c2 => ?_)
    · skip
      have hstop : ¬ (gst mak (dts mus) o n i).1 < 2 := by rw [← hq0]; have := (nI_leI (by omega) (by omega)).mp c2; omega
      have e0 := gst_stop hstop (n - i)
      rw [show i + (n - i) = n by omega] at e0
      have e1 : f = (gst mak (dts mus) o n n).1 := by rw [hq0, e0]
      have e2 : dt x = (gst mak (dts mus) o n n).2 := by rw [hq1, e0]
      refine lv_iload_n hx hb dX2_guess_59 rfl (lv_at hl 2 rfl) ?_
      refine lv_iconst (v := nI 2) hx hb dX2_guess_60 (by decide) ?_
      refine lv_icmp_ne (tgt := 72) hx hb dX2_guess_61 (by decide) (fun c4 => ?_) (fun c4 => ?_)
      · skip
        refine lv_dload_n hx hb dX2_guess_72 rfl (lv_at hl 3 rfl) ?_
        have e9 : dt x = guess mak (dts mus) o n := by unfold guess; rw [if_neg (fun q => c4 (by rw [e1, q])), e2]
        refine W.endD hdl ?_
        exact W.dret hx hb hr (fun t ht hW => ⟨⟨_, (), rfl, e9, by rw [ht]; exact hP, va_K.moved hW.alike (xk_Kd hK), hD⟩, hS.F ht⟩) hS.2.2 dX2_guess_73
      · skip
        refine lv_dload_n hx hb dX2_guess_64 rfl (lv_at hl 3 rfl) ?_
        refine lv_ldc2d hx hb (xk_od hown) (dr_words hts _ (.constantDouble RX2 87 4611686018427387904) (by decide +kernel)) dX2_guess_65 ?_
        refine lv_ddiv_any hdl lw_bits hx hb dX2_guess_68 (fun r3 _ hal hd4 => ?_)
        have er3 := dt_div hal
        refine lv_goto (tgt := 73) hx hb dX2_guess_69 (by decide) ?_
        have e9 : dt r3 = guess mak (dts mus) o n := by unfold guess; rw [if_pos (by rw [← e1]; exact (nI_eq (by omega) (by omega)).mp c4), er3, e2]
        refine W.endD hd4 ?_
        exact W.dret hx hb hr (fun t ht hW => ⟨⟨_, (), rfl, e9, by rw [ht]; exact hP, va_K.moved hW.alike (xk_Kd hK), hD⟩, hS.F ht⟩) hS.2.2 dX2_guess_73
    · skip
      have hf1 : f < 2 := by
        rcases Nat.lt_or_ge f 2 with q | q
        · exact q
        · exact absurd ((nI_leI (by omega) (by omega)).mpr q) c2
      have e5 := fn_sub hlt
      refine lv_aload_n hx hb dX2_guess_22 rfl (lv_at hl 0 rfl) ?_
      refine va_get (D := D) (ci := 2) (v := .ref (b 7)) (C := RX2) (T := TX2) (N := 20) hx hb (dr_words hts _) inX2 (xk_od hown) (xk_Kd hK) hP 0 rfl rfl 11 (by decide) (dr_words hts _ (.fieldLink RX2 36 "GridCommonsModel" "areKnown" "[Z") (by decide +kernel)) (fun _ h9 => h9) rfl dX2_guess_23 ?_
      refine lv_iconst (v := nI 5) hx hb dX2_guess_26 (by decide) ?_
      refine lv_iload hx hb dX2_guess_27 (lv_at hl 4 rfl) ?_
      refine lv_imul hx hb dX2_guess_29 ?_
      refine lv_iload_n hx hb dX2_guess_30 rfl (lv_at hl 1 rfl) ?_
      refine lv_iadd hx hb dX2_guess_31 ?_
      refine xk_i (y := nI (5 * (n - 1 - i) + o)) (by rw [e5, pk_mul, nI_add]) ?_
      refine xk_zald hx hb (xk_Kd hK) hP 7 1 rfl rfl (o := (5 * (n - 1 - i) + o)) (by omega) (by decide) dX2_guess_32 ?_
      refine lv_if_eq (tgt := 53) hx hb dX2_guess_33 (by decide) (fun c3 => ?_) (fun c3 => ?_)
      · skip
        have e9 : gst mak (dts mus) o n (i + 1) = gst mak (dts mus) o n i := if_neg (fun q => q.2 c3)
        refine lv_iinc (v := nI n - nI (i + 1 + 1)) (lv' := [(5, .int (nI n - nI (i + 1 + 1))), (0, .ref (b 0)), (1, .int (nI o)), (2, .int (nI f)), (3, .double x)]) hx hb dX2_guess_53 hl (k := 4) rfl (iinc_back n i) (by decide) rfl (fun ls hl => ?_)
        refine lv_goto (tgt := 12) hx hb dX2_guess_56 (by decide) ?_
        exact next _ _ _ _ hlt ⟨f, x, (by rw [e9]; exact hq0), (by rw [e9]; exact hq1), hP, hD, hS, hdl, lv_sub hl [1, 2, 3, 4, 0] rfl⟩
      · skip
        refine lv_dload_n hx hb dX2_guess_36 rfl (lv_at hl 3 rfl) ?_
        refine lv_aload_n hx hb dX2_guess_37 rfl (lv_at hl 0 rfl) ?_
        refine va_get (D := D) (ci := 2) (v := .ref (b 8)) (C := RX2) (T := TX2) (N := 20) hx hb (dr_words hts _) inX2 (xk_od hown) (xk_Kd hK) hP 0 rfl rfl 12 (by decide) (dr_words hts _ (.fieldLink RX2 39 "GridCommonsModel" "uses" "[D") (by decide +kernel)) (fun _ h9 => h9) rfl dX2_guess_38 ?_
        refine lv_iconst (v := nI 5) hx hb dX2_guess_41 (by decide) ?_
        refine lv_iload hx hb dX2_guess_42 (lv_at hl 4 rfl) ?_
        refine lv_imul hx hb dX2_guess_44 ?_
        refine lv_iload_n hx hb dX2_guess_45 rfl (lv_at hl 1 rfl) ?_
        refine lv_iadd hx hb dX2_guess_46 ?_
        refine xk_i (y := nI (5 * (n - 1 - i) + o)) (by rw [e5, pk_mul, nI_add]) ?_
        refine xk_dald hx hb (xk_Kd hK) hP 8 2 rfl rfl (o := (5 * (n - 1 - i) + o)) (by omega) (by decide) dX2_guess_47 ?_
        refine lv_dadd_any hdl lw_bits hx hb dX2_guess_48 (fun r5 _ hal hd6 => ?_)
        have er5 := dt_add hal
        refine lv_dstore_n (lv' := [(3, .double r5), (0, .ref (b 0)), (1, .int (nI o)), (2, .int (nI f)), (5, .int (nI n - nI (i + 1)))]) hx hb dX2_guess_49 rfl hl (by decide) rfl (fun ls hl => ?_)
        refine lv_iinc (v := nI (f + 1)) (lv' := [(2, .int (nI (f + 1))), (3, .double r5), (0, .ref (b 0)), (1, .int (nI o)), (5, .int (nI n - nI (i + 1)))]) hx hb dX2_guess_50 hl (k := 3) rfl (nI_1 f) (by decide) rfl (fun ls hl => ?_)
        have e9 : gst mak (dts mus) o n (i + 1) = ((gst mak (dts mus) o n i).1 + 1, dAdd (gst mak (dts mus) o n i).2 (dts mus (5 * (n - 1 - i) + o))) := if_pos ⟨by rw [← hq0]; exact hf1, c3⟩
        refine lv_iinc (v := nI n - nI (i + 1 + 1)) (lv' := [(5, .int (nI n - nI (i + 1 + 1))), (2, .int (nI (f + 1))), (3, .double r5), (0, .ref (b 0)), (1, .int (nI o))]) hx hb dX2_guess_53 hl (k := 4) rfl (iinc_back n i) (by decide) rfl (fun ls hl => ?_)
        refine lv_goto (tgt := 12) hx hb dX2_guess_56 (by decide) ?_
        exact next _ _ _ _ hlt ⟨(f + 1), r5, (by rw [e9, ← hq0]), (by rw [e9, er5, hq1]; rfl), hP, hD, hS, hd6, lv_sub hl [3, 4, 1, 2, 0] rfl⟩
set_option maxHeartbeats 4000000 in
set_option maxRecDepth 100000 in
theorem mX2_sumU (l : Launch) (D : va_G) (cI cZ cD : ClassId) (b : Nat → Nat) (sz : Nat) (mth : Int32) (msh mst msd : Nat → Int32) (mbi : Nat → UInt64) (mpr mba : UInt64) (mtn mcl : Int32) (mat mto mak : Nat → Int32) (mus mud mfs mfb mbo mso mpc mne : Nat → UInt64) (n : Nat) (hn : n < 60) (V : Nat → Dm) (hV : ∀ k, k < 5 → dts mud (5 * n + k) = V k) : MetD lw_cs l yX2_sum wsX2_sum ({ frames := 0, cells := 0, slots := 0, locals := 0 } : Room) (va_Pc [.ref (b 0), .ref (b 9), .int (nI (5 * n))] (XP D cI cZ cD (MW b cI cZ cD mth msh mst msd mbi mpr mba mtn mcl mat mto mak mus mud mfs mfb mbo mso mpc mne) sz)) (va_Qd (fun (r : UInt64) (u : Unit) => dt r = sumD V 5) (fun (u : Unit) t => XB D cI cZ cD (MW b cI cZ cD mth msh mst msd mbi mpr mba mtn mcl mat mto mak mus mud mfs mfb mbo mso mpc mne) (va_A (MW b cI cZ cD mth msh mst msd mbi mpr mba mtn mcl mat mto mak mus mud mfs mfb mbo mso mpc mne) sz) t) (va_A (MW b cI cZ cD mth msh mst msd mbi mpr mba mtn mcl mat mto mak mus mud mfs mfb mbo mso mpc mne) sz)) 0 0 (va_A (MW b cI cZ cD mth msh mst msd mbi mpr mba mtn mcl mat mto mak mus mud mfs mfb mbo mso mpc mne) sz) := by
  refine MetD.ofW (cc := cX2_sum) (maxL := 6) (ret := (some .double)) (by decide +kernel) rfl ?_
  intro p e s m args below meth c s₁ B hml hv hd0
  obtain ⟨rfl, hsz, hP, hK, hD0⟩ := hv
  have hx := B.exec
  have hb := B.bytes
  have hr := B.returns
  have hts := atoms_spec (ws := wsX2_sum) B.pre
  have hown : s.vm.findClass RX2 = some m.cls := findClass_of_methodNamed B.named
  have hlocks := B.notSynchronized
  subst hsz
  have hD := hD0.self (sz := s.heap.size)
  generalize hAe : va_A (MW b cI cZ cD mth msh mst msd mbi mpr mba mtn mcl mat mto mak mus mud mfs mfb mbo mso mpc mne) s.heap.size = A at hD ⊢
  have hA : ∀ q : Nat, s.heap.size ≤ q → A q := fun q h => by rw [← hAe]; exact Or.inr h
  have hS : va_S A s.heap s.heap [] := va_S.rf
  have hl := lv_entry ([.ref (b 0), .ref (b 9), .int (nI (5 * n))]) (n := 6) (Nat.le_of_ble_eq_true rfl)
  rw [lg_entry_eq]
  generalize (lg_sl ([.ref (b 0), .ref (b 9), .int (nI (5 * n))]) ++ List.replicate (6 - (lg_sl ([.ref (b 0), .ref (b 9), .int (nI (5 * n))])).length) Slot.unset).toArray = ls at hl ⊢
  have hl : lv_has ls 6 [(0, .ref (b 0)), (1, .ref (b 9)), (2, .int (nI (5 * n)))] := hl
  refine lv_dconst0 hx hb dX2_sum_0 ?_
  refine lv_dstore_n (lv' := [(3, .double FP.dconst0), (0, .ref (b 0)), (1, .ref (b 9)), (2, .int (nI (5 * n)))]) hx hb dX2_sum_1 rfl hl (by decide) rfl (fun ls hl => ?_)
  refine lv_iconst (v := nI 0) hx hb dX2_sum_2 (by decide) ?_
  refine lv_istore (lv' := [(5, .int (nI 0)), (3, .double FP.dconst0), (0, .ref (b 0)), (1, .ref (b 9)), (2, .int (nI (5 * n)))]) hx hb dX2_sum_3 hl (by decide) rfl (fun ls hl => ?_)
  refine xk_loop (fun i H locs ls d => ∃ (x : UInt64), (dt x = sumD V i) ∧ (va_P D vwCl (MW b cI cZ cD mth msh mst msd mbi mpr mba mtn mcl mat mto mak mus mud mfs mfb mbo mso mpc mne) H) ∧ (va_D A (MW b cI cZ cD mth msh mst msd mbi mpr mba mtn mcl mat mto mak mus mud mfs mfb mbo mso mpc mne)) ∧ (va_S A s.heap H locs) ∧ (s.drawn.sameBut d lw_cs) ∧ (lv_has ls 6 [(0, .ref (b 0)), (1, .ref (b 9)), (2, .int (nI (5 * n))), (3, .double x), (5, .int (nI i))])) 5 ?_ (i := 0) (Nat.zero_le _) ⟨FP.dconst0, rfl, hP, hD, hS, hd0, lv_sub hl [2, 3, 4, 1, 0] rfl⟩
  intro i H locs ls d hi hI next
  obtain ⟨x, hq0, hP, hD, hS, hdl, hl⟩ := hI
  refine lv_iload hx hb dX2_sum_5 (lv_at hl 4 rfl) ?_
  refine lv_iconst (v := nI 5) hx hb dX2_sum_7 (by decide) ?_
  refine lv_icmp_ge (tgt := 26) hx hb dX2_sum_8 (by decide) (fun c => ?_) (fun c => ?_)
  · skip
    obtain rfl := xk_ge hi (by decide) c
    refine lv_dload_n hx hb dX2_sum_26 rfl (lv_at hl 3 rfl) ?_
    refine W.endD hdl ?_
    exact W.dret hx hb hr (fun t ht hW => ⟨⟨_, (), rfl, hq0, by rw [ht]; exact hP, va_K.moved hW.alike (xk_Kd hK), hD⟩, hS.F ht⟩) hS.2.2 dX2_sum_27
  · skip
    have hlt := xk_nge hi (by decide) c
    refine lv_dload_n hx hb dX2_sum_11 rfl (lv_at hl 3 rfl) ?_
    refine lv_aload_n hx hb dX2_sum_12 rfl (lv_at hl 1 rfl) ?_
    refine lv_iload_n hx hb dX2_sum_13 rfl (lv_at hl 2 rfl) ?_
    refine lv_iload hx hb dX2_sum_14 (lv_at hl 4 rfl) ?_
    refine lv_iadd hx hb dX2_sum_16 ?_
    refine xk_i (y := nI (5 * n + i)) (by rw [nI_add]) ?_
    refine xk_dald hx hb (xk_Kd hK) hP 9 2 rfl rfl (o := (5 * n + i)) (by omega) (by decide) dX2_sum_17 ?_
    refine lv_dadd_any hdl lw_bits hx hb dX2_sum_18 (fun r1 _ hal hd2 => ?_)
    have er1 := dt_add hal
    refine lv_dstore_n (lv' := [(3, .double r1), (0, .ref (b 0)), (1, .ref (b 9)), (2, .int (nI (5 * n))), (5, .int (nI i))]) hx hb dX2_sum_19 rfl hl (by decide) rfl (fun ls hl => ?_)
    refine lv_iinc (v := nI (i + 1)) (lv' := [(5, .int (nI (i + 1))), (3, .double r1), (0, .ref (b 0)), (1, .ref (b 9)), (2, .int (nI (5 * n)))]) hx hb dX2_sum_20 hl (k := 4) rfl (nI_1 i) (by decide) rfl (fun ls hl => ?_)
    refine lv_goto (tgt := 5) hx hb dX2_sum_23 (by decide) ?_
    exact next _ _ _ _ hlt ⟨r1, (by rw [er1, hq0]; exact congrArg (dAdd (sumD V i)) (hV i hlt)), hP, hD, hS, hd2, lv_sub hl [2, 3, 4, 1, 0] rfl⟩
set_option maxHeartbeats 4000000 in
set_option maxRecDepth 100000 in
theorem mX2_sumN (l : Launch) (D : va_G) (cI cZ cD : ClassId) (b : Nat → Nat) (sz : Nat) (mth : Int32) (msh mst msd : Nat → Int32) (mbi : Nat → UInt64) (mpr mba : UInt64) (mtn mcl : Int32) (mat mto mak : Nat → Int32) (mus mud mfs mfb mbo mso mpc mne : Nat → UInt64) (V : Nat → Dm) (hV : is5 mne V) : MetD lw_cs l yX2_sum wsX2_sum ({ frames := 0, cells := 0, slots := 0, locals := 0 } : Room) (va_Pc [.ref (b 0), .ref (b 15), .int (nI 0)] (XP D cI cZ cD (MW b cI cZ cD mth msh mst msd mbi mpr mba mtn mcl mat mto mak mus mud mfs mfb mbo mso mpc mne) sz)) (va_Qd (fun (r : UInt64) (u : Unit) => dt r = sumD V 5) (fun (u : Unit) t => XB D cI cZ cD (MW b cI cZ cD mth msh mst msd mbi mpr mba mtn mcl mat mto mak mus mud mfs mfb mbo mso mpc mne) (va_A (MW b cI cZ cD mth msh mst msd mbi mpr mba mtn mcl mat mto mak mus mud mfs mfb mbo mso mpc mne) sz) t) (va_A (MW b cI cZ cD mth msh mst msd mbi mpr mba mtn mcl mat mto mak mus mud mfs mfb mbo mso mpc mne) sz)) 0 0 (va_A (MW b cI cZ cD mth msh mst msd mbi mpr mba mtn mcl mat mto mak mus mud mfs mfb mbo mso mpc mne) sz) := by
  refine MetD.ofW (cc := cX2_sum) (maxL := 6) (ret := (some .double)) (by decide +kernel) rfl ?_
  intro p e s m args below meth c s₁ B hml hv hd0
  obtain ⟨rfl, hsz, hP, hK, hD0⟩ := hv
  have hx := B.exec
  have hb := B.bytes
  have hr := B.returns
  have hts := atoms_spec (ws := wsX2_sum) B.pre
  have hown : s.vm.findClass RX2 = some m.cls := findClass_of_methodNamed B.named
  have hlocks := B.notSynchronized
  subst hsz
  have hD := hD0.self (sz := s.heap.size)
  generalize hAe : va_A (MW b cI cZ cD mth msh mst msd mbi mpr mba mtn mcl mat mto mak mus mud mfs mfb mbo mso mpc mne) s.heap.size = A at hD ⊢
  have hA : ∀ q : Nat, s.heap.size ≤ q → A q := fun q h => by rw [← hAe]; exact Or.inr h
  have hS : va_S A s.heap s.heap [] := va_S.rf
  have hl := lv_entry ([.ref (b 0), .ref (b 15), .int (nI 0)]) (n := 6) (Nat.le_of_ble_eq_true rfl)
  rw [lg_entry_eq]
  generalize (lg_sl ([.ref (b 0), .ref (b 15), .int (nI 0)]) ++ List.replicate (6 - (lg_sl ([.ref (b 0), .ref (b 15), .int (nI 0)])).length) Slot.unset).toArray = ls at hl ⊢
  have hl : lv_has ls 6 [(0, .ref (b 0)), (1, .ref (b 15)), (2, .int (nI 0))] := hl
  refine lv_dconst0 hx hb dX2_sum_0 ?_
  refine lv_dstore_n (lv' := [(3, .double FP.dconst0), (0, .ref (b 0)), (1, .ref (b 15)), (2, .int (nI 0))]) hx hb dX2_sum_1 rfl hl (by decide) rfl (fun ls hl => ?_)
  refine lv_iconst (v := nI 0) hx hb dX2_sum_2 (by decide) ?_
  refine lv_istore (lv' := [(5, .int (nI 0)), (3, .double FP.dconst0), (0, .ref (b 0)), (1, .ref (b 15)), (2, .int (nI 0))]) hx hb dX2_sum_3 hl (by decide) rfl (fun ls hl => ?_)
  refine xk_loop (fun i H locs ls d => ∃ (x : UInt64), (dt x = sumD V i) ∧ (va_P D vwCl (MW b cI cZ cD mth msh mst msd mbi mpr mba mtn mcl mat mto mak mus mud mfs mfb mbo mso mpc mne) H) ∧ (va_D A (MW b cI cZ cD mth msh mst msd mbi mpr mba mtn mcl mat mto mak mus mud mfs mfb mbo mso mpc mne)) ∧ (va_S A s.heap H locs) ∧ (s.drawn.sameBut d lw_cs) ∧ (lv_has ls 6 [(0, .ref (b 0)), (1, .ref (b 15)), (2, .int (nI 0)), (3, .double x), (5, .int (nI i))])) 5 ?_ (i := 0) (Nat.zero_le _) ⟨FP.dconst0, rfl, hP, hD, hS, hd0, lv_sub hl [2, 3, 4, 1, 0] rfl⟩
  intro i H locs ls d hi hI next
  obtain ⟨x, hq0, hP, hD, hS, hdl, hl⟩ := hI
  refine lv_iload hx hb dX2_sum_5 (lv_at hl 4 rfl) ?_
  refine lv_iconst (v := nI 5) hx hb dX2_sum_7 (by decide) ?_
  refine lv_icmp_ge (tgt := 26) hx hb dX2_sum_8 (by decide) (fun c => ?_) (fun c => ?_)
  · skip
    obtain rfl := xk_ge hi (by decide) c
    refine lv_dload_n hx hb dX2_sum_26 rfl (lv_at hl 3 rfl) ?_
    refine W.endD hdl ?_
    exact W.dret hx hb hr (fun t ht hW => ⟨⟨_, (), rfl, hq0, by rw [ht]; exact hP, va_K.moved hW.alike (xk_Kd hK), hD⟩, hS.F ht⟩) hS.2.2 dX2_sum_27
  · skip
    have hlt := xk_nge hi (by decide) c
    refine lv_dload_n hx hb dX2_sum_11 rfl (lv_at hl 3 rfl) ?_
    refine lv_aload_n hx hb dX2_sum_12 rfl (lv_at hl 1 rfl) ?_
    refine lv_iload_n hx hb dX2_sum_13 rfl (lv_at hl 2 rfl) ?_
    refine lv_iload hx hb dX2_sum_14 (lv_at hl 4 rfl) ?_
    refine lv_iadd hx hb dX2_sum_16 ?_
    refine xk_i (y := nI i) (by rw [nI_add]; congr 1; omega) ?_
    refine xk_dald hx hb (xk_Kd hK) hP 15 2 rfl rfl (o := i) (by omega) (by decide) dX2_sum_17 ?_
    refine lv_dadd_any hdl lw_bits hx hb dX2_sum_18 (fun r1 _ hal hd2 => ?_)
    have er1 := dt_add hal
    refine lv_dstore_n (lv' := [(3, .double r1), (0, .ref (b 0)), (1, .ref (b 15)), (2, .int (nI 0)), (5, .int (nI i))]) hx hb dX2_sum_19 rfl hl (by decide) rfl (fun ls hl => ?_)
    refine lv_iinc (v := nI (i + 1)) (lv' := [(5, .int (nI (i + 1))), (3, .double r1), (0, .ref (b 0)), (1, .ref (b 15)), (2, .int (nI 0))]) hx hb dX2_sum_20 hl (k := 4) rfl (nI_1 i) (by decide) rfl (fun ls hl => ?_)
    refine lv_goto (tgt := 5) hx hb dX2_sum_23 (by decide) ?_
    exact next _ _ _ _ hlt ⟨r1, (by rw [er1, hq0]; exact congrArg (dAdd (sumD V i)) (hV i hlt)), hP, hD, hS, hd2, lv_sub hl [2, 3, 4, 1, 0] rfl⟩
set_option maxHeartbeats 4000000 in
set_option maxRecDepth 100000 in
theorem mX2_nextToShed (l : Launch) (D : va_G) (cI cZ cD : ClassId) (b : Nat → Nat) (sz : Nat) (mth : Int32) (msh mst msd : Nat → Int32) (mbi : Nat → UInt64) (mpr mba : UInt64) (mtn mcl : Int32) (mat mto mak : Nat → Int32) (mus mud mfs mfb mbo mso mpc mne : Nat → UInt64) (n : Nat) (hn : n < 60) (S : Nat → Int32) (hSw : ∀ k, k < 5 → (S k = 0 ↔ ¬ mst k = 0)) (V : Nat → Dm) (hV : ∀ k, k < 5 → dts mud (5 * n + k) = V k) : Met l yX2_nextToShed wsX2_nextToShed ({ frames := 0, cells := 0, slots := 0, locals := 0 } : Room) (va_Pc [.ref (b 0), .int (nI (5 * n))] (XP D cI cZ cD (MW b cI cZ cD mth msh mst msd mbi mpr mba mtn mcl mat mto mak mus mud mfs mfb mbo mso mpc mne) sz)) (va_Qi (fun (r : Int32) (u : Unit) => r = oi (nx S msd V 5)) (fun (u : Unit) t => XB D cI cZ cD (MW b cI cZ cD mth msh mst msd mbi mpr mba mtn mcl mat mto mak mus mud mfs mfb mbo mso mpc mne) (va_A (MW b cI cZ cD mth msh mst msd mbi mpr mba mtn mcl mat mto mak mus mud mfs mfb mbo mso mpc mne) sz) t) (va_A (MW b cI cZ cD mth msh mst msd mbi mpr mba mtn mcl mat mto mak mus mud mfs mfb mbo mso mpc mne) sz)) 0 0 (va_A (MW b cI cZ cD mth msh mst msd mbi mpr mba mtn mcl mat mto mak mus mud mfs mfb mbo mso mpc mne) sz) := by
  refine Met.ofW (cc := cX2_nextToShed) (maxL := 5) (ret := (some .int)) (by decide +kernel) rfl ?_
  intro p e s m args below meth c s₁ B hml hv
  obtain ⟨rfl, hsz, hP, hK, hD0⟩ := hv
  have hx := B.exec
  have hb := B.bytes
  have hr := B.returns
  have hts := atoms_spec (ws := wsX2_nextToShed) B.pre
  have hown : s.vm.findClass RX2 = some m.cls := findClass_of_methodNamed B.named
  have hlocks := B.notSynchronized
  subst hsz
  have hD := hD0.self (sz := s.heap.size)
  generalize hAe : va_A (MW b cI cZ cD mth msh mst msd mbi mpr mba mtn mcl mat mto mak mus mud mfs mfb mbo mso mpc mne) s.heap.size = A at hD ⊢
  have hA : ∀ q : Nat, s.heap.size ≤ q → A q := fun q h => by rw [← hAe]; exact Or.inr h
  have hS : va_S A s.heap s.heap [] := va_S.rf
  have hl := lv_entry ([.ref (b 0), .int (nI (5 * n))]) (n := 5) (Nat.le_of_ble_eq_true rfl)
  rw [lg_entry_eq]
  generalize (lg_sl ([.ref (b 0), .int (nI (5 * n))]) ++ List.replicate (5 - (lg_sl ([.ref (b 0), .int (nI (5 * n))])).length) Slot.unset).toArray = ls at hl ⊢
  have hl : lv_has ls 5 [(0, .ref (b 0)), (1, .int (nI (5 * n)))] := hl
  have inX2 : ∀ w ∈ wsX20, w ∈ wsX2_nextToShed := by decide +kernel
  refine lv_iconst (v := (-1)) hx hb dX2_nextToShed_0 (by decide) ?_
  refine lv_istore_n (lv' := [(2, .int (-1)), (0, .ref (b 0)), (1, .int (nI (5 * n)))]) hx hb dX2_nextToShed_1 rfl hl (by decide) rfl (fun ls hl => ?_)
  refine lv_iconst (v := nI 0) hx hb dX2_nextToShed_2 (by decide) ?_
  refine lv_istore_n (lv' := [(3, .int (nI 0)), (2, .int (-1)), (0, .ref (b 0)), (1, .int (nI (5 * n)))]) hx hb dX2_nextToShed_3 rfl hl (by decide) rfl (fun ls hl => ?_)
  refine xk_loopP (fun i H locs ls => (va_P D vwCl (MW b cI cZ cD mth msh mst msd mbi mpr mba mtn mcl mat mto mak mus mud mfs mfb mbo mso mpc mne) H) ∧ (va_D A (MW b cI cZ cD mth msh mst msd mbi mpr mba mtn mcl mat mto mak mus mud mfs mfb mbo mso mpc mne)) ∧ (va_S A s.heap H locs) ∧ (lv_has ls 5 [(0, .ref (b 0)), (1, .int (nI (5 * n))), (2, .int (oi (nx S msd V i))), (3, .int (nI i))])) 5 ?_ (i := 0) (Nat.zero_le _) ⟨hP, hD, hS, lv_sub hl [2, 3, 1, 0] rfl⟩
  intro i H locs ls hi hI next
  obtain ⟨hP, hD, hS, hl⟩ := hI
  refine lv_iload_n hx hb dX2_nextToShed_4 rfl (lv_at hl 3 rfl) ?_
  refine lv_iconst (v := nI 5) hx hb dX2_nextToShed_5 (by decide) ?_
  refine lv_icmp_ge (tgt := 70) hx hb dX2_nextToShed_6 (by decide) (fun c => ?_) (fun c => ?_)
  · skip
    obtain rfl := xk_ge hi (by decide) c
    refine lv_iload_n hx hb dX2_nextToShed_70 rfl (lv_at hl 2 rfl) ?_
    exact W.iret hx hb hr (fun t ht hW => ⟨⟨_, (), rfl, rfl, by rw [ht]; exact hP, va_K.moved hW.alike hK, hD⟩, hS.F ht⟩) hS.2.2 dX2_nextToShed_71
  · skip
    have hlt := xk_nge hi (by decide) c
    have e0 : nx S msd V (i + 1) = match nx S msd V i with | none => if may S V i then some i else none | some j => if may S V i ∧ msd i < msd j then some i else some j := rfl
    obtain ⟨y, hy⟩ : ∃ y, y = nx S msd V i := ⟨_, rfl⟩
    rw [← hy] at e0 hl
    refine lv_aload_n hx hb dX2_nextToShed_9 rfl (lv_at hl 0 rfl) ?_
    refine va_get (D := D) (ci := 2) (v := .ref (b 9)) (C := RX2) (T := TX2) (N := 20) hx hb hts inX2 hown hK hP 0 rfl rfl 13 (by decide) (hts (.fieldLink RX2 42 "GridCommonsModel" "used" "[D") (by decide +kernel)) (fun _ h9 => h9) rfl dX2_nextToShed_10 ?_
    refine lv_iload_n hx hb dX2_nextToShed_13 rfl (lv_at hl 1 rfl) ?_
    refine lv_iload_n hx hb dX2_nextToShed_14 rfl (lv_at hl 3 rfl) ?_
    refine lv_iadd hx hb dX2_nextToShed_15 ?_
    refine xk_i (y := nI (5 * n + i)) (nI_add _ _) ?_
    refine xk_dald hx hb hK hP 9 2 rfl rfl (o := (5 * n + i)) (by omega) (by decide) dX2_nextToShed_16 ?_
    refine lv_dconst0 hx hb dX2_nextToShed_17 ?_
    refine lv_dcmp hx hb dX2_nextToShed_18 ?_
    refine lv_if_le (tgt := 35) hx hb dX2_nextToShed_19 (by decide) (fun c1 => ?_) (fun c1 => ?_)
    · skip
      refine lv_iconst (v := nI 0) hx hb dX2_nextToShed_35 (by decide) ?_
      refine lv_istore (lv' := [(4, .int (nI 0)), (0, .ref (b 0)), (1, .int (nI (5 * n))), (2, .int (oi y)), (3, .int (nI i))]) hx hb dX2_nextToShed_36 hl (by decide) rfl (fun ls hl => ?_)
      refine lv_iload hx hb dX2_nextToShed_38 (lv_at hl 0 rfl) ?_
      refine lv_if_eq (tgt := 64) hx hb dX2_nextToShed_40 (by decide) (fun c => ?_) (fun c => absurd c (by decide))
      have hm : ¬ may S V i := fun q => (cv_l_le _).mp c1 (by show dCmp _ _ = _; have q2 := q.2; rw [← hV i hlt] at q2; exact q2)
      have e9 : nx S msd V (i + 1) = y := by
        rw [e0]
        cases y with
        | none => dsimp only; rw [if_neg hm]
        | some j => dsimp only; rw [if_neg (fun q => hm q.1)]
      refine lv_iinc (v := nI (i + 1)) (lv' := [(3, .int (nI (i + 1))), (4, .int (nI 0)), (0, .ref (b 0)), (1, .int (nI (5 * n))), (2, .int (oi y))]) hx hb dX2_nextToShed_64 hl (k := 4) rfl (nI_1 i) (by decide) rfl (fun ls hl => ?_)
      refine lv_goto (tgt := 4) hx hb dX2_nextToShed_67 (by decide) ?_
      have hl : lv_has ls 5 [(3, .int (nI (i + 1))), (4, .int (nI 0)), (0, .ref (b 0)), (1, .int (nI (5 * n))), (2, .int (oi (nx S msd V (i + 1))))] := (by rw [e9]; exact hl)
      exact next _ _ _ hlt ⟨hP, hD, hS, lv_sub hl [2, 3, 4, 0] rfl⟩
    · skip
      have hg : dCmp (V i) dZ = some .gt := by have q := Decidable.of_not_not (fun q => c1 ((cv_l_le _).mpr q)); have q2 : dCmp (dts mud (5 * n + i)) dZ = some .gt := q; rw [hV i hlt] at q2; exact q2
      refine lv_aload_n hx hb dX2_nextToShed_22 rfl (lv_at hl 0 rfl) ?_
      refine va_get (D := D) (ci := 2) (v := .ref (b 2)) (C := RX2) (T := TX2) (N := 20) hx hb hts inX2 hown hK hP 0 rfl rfl 2 (by decide) (hts (.fieldLink RX2 13 "GridCommonsModel" "areStuck" "[Z") (by decide +kernel)) (fun _ h9 => h9) rfl dX2_nextToShed_23 ?_
      refine lv_iload_n hx hb dX2_nextToShed_26 rfl (lv_at hl 3 rfl) ?_
      refine xk_zald hx hb hK hP 2 1 rfl rfl (o := i) (by omega) (by decide) dX2_nextToShed_27 ?_
      refine lv_if_ne (tgt := 35) hx hb dX2_nextToShed_28 (by decide) (fun c2 => ?_) (fun c2 => ?_)
      · skip
        refine lv_iconst (v := nI 0) hx hb dX2_nextToShed_35 (by decide) ?_
        refine lv_istore (lv' := [(4, .int (nI 0)), (0, .ref (b 0)), (1, .int (nI (5 * n))), (2, .int (oi y)), (3, .int (nI i))]) hx hb dX2_nextToShed_36 hl (by decide) rfl (fun ls hl => ?_)
        refine lv_iload hx hb dX2_nextToShed_38 (lv_at hl 0 rfl) ?_
        refine lv_if_eq (tgt := 64) hx hb dX2_nextToShed_40 (by decide) (fun c => ?_) (fun c => absurd c (by decide))
        have hm : ¬ may S V i := fun q => q.1 ((hSw i hlt).mpr c2)
        have e9 : nx S msd V (i + 1) = y := by
          rw [e0]
          cases y with
          | none => dsimp only; rw [if_neg hm]
          | some j => dsimp only; rw [if_neg (fun q => hm q.1)]
        refine lv_iinc (v := nI (i + 1)) (lv' := [(3, .int (nI (i + 1))), (4, .int (nI 0)), (0, .ref (b 0)), (1, .int (nI (5 * n))), (2, .int (oi y))]) hx hb dX2_nextToShed_64 hl (k := 4) rfl (nI_1 i) (by decide) rfl (fun ls hl => ?_)
        refine lv_goto (tgt := 4) hx hb dX2_nextToShed_67 (by decide) ?_
        have hl : lv_has ls 5 [(3, .int (nI (i + 1))), (4, .int (nI 0)), (0, .ref (b 0)), (1, .int (nI (5 * n))), (2, .int (oi (nx S msd V (i + 1))))] := (by rw [e9]; exact hl)
        exact next _ _ _ hlt ⟨hP, hD, hS, lv_sub hl [2, 3, 4, 0] rfl⟩
      · skip
        have hm : may S V i := ⟨fun q => (hSw i hlt).mp q c2, hg⟩
        refine lv_iconst (v := nI 1) hx hb dX2_nextToShed_31 (by decide) ?_
        refine lv_goto (tgt := 36) hx hb dX2_nextToShed_32 (by decide) ?_
        refine lv_istore (lv' := [(4, .int (nI 1)), (0, .ref (b 0)), (1, .int (nI (5 * n))), (2, .int (oi y)), (3, .int (nI i))]) hx hb dX2_nextToShed_36 hl (by decide) rfl (fun ls hl => ?_)
        refine lv_iload hx hb dX2_nextToShed_38 (lv_at hl 0 rfl) ?_
        refine lv_if_eq (tgt := 64) hx hb dX2_nextToShed_40 (by decide) (fun c => absurd c (by decide)) (fun c => ?_)
        cases y with
        | none =>
          have hl : lv_has ls 5 [(4, .int (nI 1)), (0, .ref (b 0)), (1, .int (nI (5 * n))), (2, .int (-1)), (3, .int (nI i))] := hl
          refine lv_iload_n hx hb dX2_nextToShed_43 rfl (lv_at hl 3 rfl) ?_
          refine lv_if_lt (tgt := 62) hx hb dX2_nextToShed_44 (by decide) (fun c => ?_) (fun c => absurd c (by decide))
          refine lv_iload_n hx hb dX2_nextToShed_62 rfl (lv_at hl 4 rfl) ?_
          refine lv_istore_n (lv' := [(2, .int (nI i)), (4, .int (nI 1)), (0, .ref (b 0)), (1, .int (nI (5 * n))), (3, .int (nI i))]) hx hb dX2_nextToShed_63 rfl hl (by decide) rfl (fun ls hl => ?_)
          have e9 : nx S msd V (i + 1) = some i := by rw [e0]; dsimp only; rw [if_pos hm]
          refine lv_iinc (v := nI (i + 1)) (lv' := [(3, .int (nI (i + 1))), (2, .int (nI i)), (4, .int (nI 1)), (0, .ref (b 0)), (1, .int (nI (5 * n)))]) hx hb dX2_nextToShed_64 hl (k := 4) rfl (nI_1 i) (by decide) rfl (fun ls hl => ?_)
          refine lv_goto (tgt := 4) hx hb dX2_nextToShed_67 (by decide) ?_
          have hl : lv_has ls 5 [(3, .int (nI (i + 1))), (2, .int (oi (nx S msd V (i + 1)))), (4, .int (nI 1)), (0, .ref (b 0)), (1, .int (nI (5 * n)))] := (by rw [e9]; exact hl)
          exact next _ _ _ hlt ⟨hP, hD, hS, lv_sub hl [3, 4, 1, 0] rfl⟩
        | some j =>
          have hl : lv_has ls 5 [(4, .int (nI 1)), (0, .ref (b 0)), (1, .int (nI (5 * n))), (2, .int (nI j)), (3, .int (nI i))] := hl
          have hj := (nx_lt hy.symm).1
          refine lv_iload_n hx hb dX2_nextToShed_43 rfl (lv_at hl 3 rfl) ?_
          refine lv_if_lt (tgt := 62) hx hb dX2_nextToShed_44 (by decide) (fun c => absurd c (nI_pos (by omega))) (fun c => ?_)
          refine lv_aload_n hx hb dX2_nextToShed_47 rfl (lv_at hl 1 rfl) ?_
          refine va_get (D := D) (ci := 2) (v := .ref (b 3)) (C := RX2) (T := TX2) (N := 20) hx hb hts inX2 hown hK hP 0 rfl rfl 3 (by decide) (hts (.fieldLink RX2 17 "GridCommonsModel" "sheds" "[I") (by decide +kernel)) (fun _ h9 => h9) rfl dX2_nextToShed_48 ?_
          refine lv_iload_n hx hb dX2_nextToShed_51 rfl (lv_at hl 4 rfl) ?_
          refine xk_iald hx hb hK hP 3 0 rfl rfl (o := i) (by omega) (by decide) dX2_nextToShed_52 ?_
          refine lv_aload_n hx hb dX2_nextToShed_53 rfl (lv_at hl 1 rfl) ?_
          refine va_get (D := D) (ci := 2) (v := .ref (b 3)) (C := RX2) (T := TX2) (N := 20) hx hb hts inX2 hown hK hP 0 rfl rfl 3 (by decide) (hts (.fieldLink RX2 17 "GridCommonsModel" "sheds" "[I") (by decide +kernel)) (fun _ h9 => h9) rfl dX2_nextToShed_54 ?_
          refine lv_iload_n hx hb dX2_nextToShed_57 rfl (lv_at hl 3 rfl) ?_
          refine xk_iald hx hb hK hP 3 0 rfl rfl (o := j) (by omega) (by decide) dX2_nextToShed_58 ?_
          refine lv_icmp_ge (tgt := 64) hx hb dX2_nextToShed_59 (by decide) (fun c5 => ?_) (fun c5 => ?_)
          · skip
            have e9 : nx S msd V (i + 1) = some j := by rw [e0]; dsimp only; rw [if_neg (fun q => absurd q.2 (Int32.not_lt.mpr c5))]
            refine lv_iinc (v := nI (i + 1)) (lv' := [(3, .int (nI (i + 1))), (4, .int (nI 1)), (0, .ref (b 0)), (1, .int (nI (5 * n))), (2, .int (nI j))]) hx hb dX2_nextToShed_64 hl (k := 4) rfl (nI_1 i) (by decide) rfl (fun ls hl => ?_)
            refine lv_goto (tgt := 4) hx hb dX2_nextToShed_67 (by decide) ?_
            have hl : lv_has ls 5 [(3, .int (nI (i + 1))), (4, .int (nI 1)), (0, .ref (b 0)), (1, .int (nI (5 * n))), (2, .int (oi (nx S msd V (i + 1))))] := (by rw [e9]; exact hl)
            exact next _ _ _ hlt ⟨hP, hD, hS, lv_sub hl [2, 3, 4, 0] rfl⟩
          · skip
            refine lv_iload_n hx hb dX2_nextToShed_62 rfl (lv_at hl 4 rfl) ?_
            refine lv_istore_n (lv' := [(2, .int (nI i)), (4, .int (nI 1)), (0, .ref (b 0)), (1, .int (nI (5 * n))), (3, .int (nI i))]) hx hb dX2_nextToShed_63 rfl hl (by decide) rfl (fun ls hl => ?_)
            have e9 : nx S msd V (i + 1) = some i := by rw [e0]; dsimp only; rw [if_pos ⟨hm, Int32.not_le.mp c5⟩]
            refine lv_iinc (v := nI (i + 1)) (lv' := [(3, .int (nI (i + 1))), (2, .int (nI i)), (4, .int (nI 1)), (0, .ref (b 0)), (1, .int (nI (5 * n)))]) hx hb dX2_nextToShed_64 hl (k := 4) rfl (nI_1 i) (by decide) rfl (fun ls hl => ?_)
            refine lv_goto (tgt := 4) hx hb dX2_nextToShed_67 (by decide) ?_
            have hl : lv_has ls 5 [(3, .int (nI (i + 1))), (2, .int (oi (nx S msd V (i + 1)))), (4, .int (nI 1)), (0, .ref (b 0)), (1, .int (nI (5 * n)))] := (by rw [e9]; exact hl)
            exact next _ _ _ hlt ⟨hP, hD, hS, lv_sub hl [3, 4, 1, 0] rfl⟩
set_option maxHeartbeats 4000000 in
set_option maxRecDepth 100000 in
theorem mX2_shed (l : Launch) (D : va_G) (cI cZ cD : ClassId) (b : Nat → Nat) (sz : Nat) (mth : Int32) (msh mst msd : Nat → Int32) (mbi : Nat → UInt64) (mpr mba : UInt64) (mtn mcl : Int32) (mat mto mak : Nat → Int32) (mus mud mfs mfb mbo mso mpc mne : Nat → UInt64) (n : Nat) (hn : n < 60) (S : Nat → Int32) (hSw : ∀ k, k < 5 → (S k = 0 ↔ ¬ mst k = 0)) (V : Nat → Dm) (hV : ∀ k, k < 5 → dts mud (5 * n + k) = V k) : MetD lw_cs l yX2_shed wsX2_shed ({ frames := 1, cells := 0, slots := 0, locals := 25 } : Room) (va_Pc [.ref (b 0), .int (nI (5 * n))] (XP D cI cZ cD (MW b cI cZ cD mth msh mst msd mbi mpr mba mtn mcl mat mto mak mus mud mfs mfb mbo mso mpc mne) sz)) (va_Qi (fun (r : Int32) (u : (Nat → Int32) × (Nat → UInt64)) => r = bI (over (shd S 5 msd V).2) ∧ u.1 = (shd S 5 msd V).1 ∧ dts u.2 = po (5 * n) 5 (dts mud) (shd S 5 msd V).2) (fun (u : (Nat → Int32) × (Nat → UInt64)) t => XB D cI cZ cD (MW b cI cZ cD mth msh mst u.1 mbi mpr mba mtn mcl mat mto mak mus u.2 mfs mfb mbo mso mpc mne) (va_A (MW b cI cZ cD mth msh mst msd mbi mpr mba mtn mcl mat mto mak mus mud mfs mfb mbo mso mpc mne) sz) t) (va_A (MW b cI cZ cD mth msh mst msd mbi mpr mba mtn mcl mat mto mak mus mud mfs mfb mbo mso mpc mne) sz)) 0 0 (va_A (MW b cI cZ cD mth msh mst msd mbi mpr mba mtn mcl mat mto mak mus mud mfs mfb mbo mso mpc mne) sz) := by
  refine MetD.ofW (cc := cX2_shed) (maxL := 3) (ret := (some .boolean)) (by decide +kernel) rfl ?_
  intro p e s m args below meth c s₁ B hml hv hd0
  obtain ⟨rfl, hsz, hP, hK, hD0⟩ := hv
  have hx := B.exec
  have hb := B.bytes
  have hr := B.returns
  have hts := atoms_spec (ws := wsX2_shed) B.pre
  have hown : s.vm.findClass RX2 = some m.cls := findClass_of_methodNamed B.named
  have hlocks := B.notSynchronized
  subst hsz
  have hD := hD0.self (sz := s.heap.size)
  generalize hAe : va_A (MW b cI cZ cD mth msh mst msd mbi mpr mba mtn mcl mat mto mak mus mud mfs mfb mbo mso mpc mne) s.heap.size = A at hD ⊢
  have hA : ∀ q : Nat, s.heap.size ≤ q → A q := fun q h => by rw [← hAe]; exact Or.inr h
  have hS : va_S A s.heap s.heap [] := va_S.rf
  have hl := lv_entry ([.ref (b 0), .int (nI (5 * n))]) (n := 3) (Nat.le_of_ble_eq_true rfl)
  rw [lg_entry_eq]
  generalize (lg_sl ([.ref (b 0), .int (nI (5 * n))]) ++ List.replicate (3 - (lg_sl ([.ref (b 0), .int (nI (5 * n))])).length) Slot.unset).toArray = ls at hl ⊢
  have hl : lv_has ls 3 [(0, .ref (b 0)), (1, .int (nI (5 * n)))] := hl
  have inX2 : ∀ w ∈ wsX20, w ∈ wsX2_shed := by decide +kernel
  refine xk_loop (fun i H locs ls d => ∃ (ts' : Nat → Int32) (mu' : Nat → UInt64) (V' : Nat → Dm), (shd S (5 - i) ts' V' = shd S 5 msd V) ∧ (dts mu' = po (5 * n) 5 (dts mud) V') ∧ (cm S V' 5 ≤ 5 - i) ∧ (va_P D vwCl (MW b cI cZ cD mth msh mst ts' mbi mpr mba mtn mcl mat mto mak mus mu' mfs mfb mbo mso mpc mne) H) ∧ (va_D A (MW b cI cZ cD mth msh mst ts' mbi mpr mba mtn mcl mat mto mak mus mu' mfs mfb mbo mso mpc mne)) ∧ (va_S A s.heap H locs) ∧ (s.drawn.sameBut d lw_cs) ∧ (lv_has ls 3 [(0, .ref (b 0)), (1, .int (nI (5 * n)))])) 5 ?_ (i := 0) (Nat.zero_le _) ⟨msd, mud, V, rfl, (po_self hV).symm, (cm_le S V 5), hP, hD, hS, hd0, lv_sub hl [0, 1] rfl⟩
  intro i H locs ls d hi hI next
  obtain ⟨ts', mu', V', hq0, hq1, hq2, hP, hD, hS, hdl, hl⟩ := hI
  have hV' : ∀ k, k < 5 → dts mu' (5 * n + k) = V' k := fun k hk => by rw [hq1]; exact po_in _ _ hk
  refine lv_aload_n hx hb dX2_shed_0 rfl (lv_at hl 0 rfl) ?_
  refine lv_aload_n hx hb dX2_shed_1 rfl (lv_at hl 0 rfl) ?_
  refine va_get (D := D) (ci := 2) (v := .ref (b 9)) (C := RX2) (T := TX2) (N := 20) hx hb (dr_words hts _) inX2 (xk_od hown) (xk_Kd hK) hP 0 rfl rfl 13 (by decide) (dr_words hts _ (.fieldLink RX2 42 "GridCommonsModel" "used" "[D") (by decide +kernel)) (fun _ h9 => h9) rfl dX2_shed_2 ?_
  refine lv_iload_n hx hb dX2_shed_5 rfl (lv_at hl 1 rfl) ?_
  have hFc := va_free (wc := MW b cI cZ cD mth msh mst ts' mbi mpr mba mtn mcl mat mto mak mus mu' mfs mfb mbo mso mpc mne) hD hS hA [0, 1, 2, 3, 4, 5, 6, 7, 8, 9, 10, 11, 12, 13, 14, 15] rfl
  refine va_calldD hdl (va_runV_D (As := [.ref (b 9), .int (nI (5 * n))]) (rest := []) ⟨hx, hb, hml, (xk_od hown), (dr_words hts _)⟩ (mX2_sumU l D cI cZ cD b _ mth msh mst ts' mbi mpr mba mtn mcl mat mto mak mus mu' mfs mfb mbo mso mpc mne n hn V' hV') (cwV 2 (dr_words hts _) gX2_shed_X2_sum rfl rfl rfl (by decide +kernel) ⟨Nat.le_of_ble_eq_true rfl, Nat.le_of_ble_eq_true rfl⟩) ⟨xk_blind, va_recv (xk_Kd hK) hP (ci := 2) (q0 := 0) rfl rfl, xk_pre hP (xk_Kd hK) hD⟩ rfl rfl hl.1 rfl (lv_room (Nat.le_of_ble_eq_true rfl)) dX2_shed_6 ⟨Nat.le_of_ble_eq_true rfl, Nat.le_of_ble_eq_true rfl⟩) hS (fun q _ h => hFc q h) hFc (fun sm u t H locs ht hvm hw hB hz1 hk1 hS _ hd1 => ?_)
  obtain ⟨hP, -, hD1⟩ := hB
  rw [ht] at hP
  have hD := hD1.weaken (B := A) (fun _ _ _ h => hFc _ h)
  have hP : va_P D vwCl (MW b cI cZ cD mth msh mst ts' mbi mpr mba mtn mcl mat mto mak mus mu' mfs mfb mbo mso mpc mne) H := hP
  have hD : va_D A (MW b cI cZ cD mth msh mst ts' mbi mpr mba mtn mcl mat mto mak mus mu' mfs mfb mbo mso mpc mne) := hD
  refine lv_ldc2d hx hb (xk_od hown) (dr_words hts _ (.constantDouble RX2 93 4636737291354636288) (by decide +kernel)) dX2_shed_9 ?_
  refine lv_dcmp hx hb dX2_shed_12 ?_
  refine lv_if_le (tgt := 50) hx hb dX2_shed_13 (by decide) (fun c => ?_) (fun c => ?_)
  · skip
    have hov : ¬ over V' := fun q => (cv_l_le _).mp c (by show dCmp (dt sm) d100 = _; rw [hw]; exact q)
    have e9 : shd S 5 msd V = (ts', V') := by rw [← hq0]; exact shd_done (Or.inl hov) _
    have e8 : (nI 0 : Int32) = bI (over (shd S 5 msd V).2) := by rw [e9]; exact (bI_f hov).symm
    refine lv_iconst (v := nI 0) hx hb dX2_shed_50 (by decide) ?_
    refine xk_i e8 ?_
    refine W.endD hd1 ?_
    exact W.zret hx hb hr (bI_nar _) (fun t ht hW => ⟨⟨_, (ts', mu'), rfl, ⟨rfl, by rw [e9], by rw [e9]; exact hq1⟩, by rw [ht]; exact hP, va_K.moved hW.alike (xk_Kd hK), hD⟩, hS.F ht⟩) hS.2.2 dX2_shed_51
  · skip
    have hov : over V' := by have q := Decidable.of_not_not (fun q => c ((cv_l_le _).mpr q)); have q2 : dCmp (dt sm) d100 = some .gt := q; rw [hw] at q2; exact q2
    refine lv_aload_n hx hb dX2_shed_16 rfl (lv_at hl 0 rfl) ?_
    refine lv_iload_n hx hb dX2_shed_17 rfl (lv_at hl 1 rfl) ?_
    have hFc := va_free (wc := MW b cI cZ cD mth msh mst ts' mbi mpr mba mtn mcl mat mto mak mus mu' mfs mfb mbo mso mpc mne) hD hS hA [0, 1, 2, 3, 4, 5, 6, 7, 8, 9, 10, 11, 12, 13, 14, 15] rfl
    refine va_calli (va_runV (As := [.int (nI (5 * n))]) (rest := []) ⟨hx, hb, hml, (xk_od hown), (dr_words hts _)⟩ (mX2_nextToShed l D cI cZ cD b _ mth msh mst ts' mbi mpr mba mtn mcl mat mto mak mus mu' mfs mfb mbo mso mpc mne n hn S hSw V' hV') (cwV 1 (dr_words hts _) gX2_shed_X2_nextToShed rfl rfl rfl (by decide +kernel) ⟨Nat.le_of_ble_eq_true rfl, Nat.le_of_ble_eq_true rfl⟩) ⟨xk_blind, va_recv (xk_Kd hK) hP (ci := 2) (q0 := 0) rfl rfl, xk_pre hP (xk_Kd hK) hD⟩ rfl rfl hl.1 rfl (lv_room (Nat.le_of_ble_eq_true rfl)) dX2_shed_18 ⟨Nat.le_of_ble_eq_true rfl, Nat.le_of_ble_eq_true rfl⟩) hS (fun q _ h => hFc q h) hFc (fun r u t H locs ht hvm hw hB hz1 hk1 hS => ?_)
    obtain ⟨hP, -, hD1⟩ := hB
    rw [ht] at hP
    have hD := hD1.weaken (B := A) (fun _ _ _ h => hFc _ h)
    have hP : va_P D vwCl (MW b cI cZ cD mth msh mst ts' mbi mpr mba mtn mcl mat mto mak mus mu' mfs mfb mbo mso mpc mne) H := hP
    have hD : va_D A (MW b cI cZ cD mth msh mst ts' mbi mpr mba mtn mcl mat mto mak mus mu' mfs mfb mbo mso mpc mne) := hD
    subst hw
    obtain ⟨y, hy⟩ : ∃ y, y = nx S ts' V' 5 := ⟨_, rfl⟩
    rw [← hy]
    cases y with
    | none =>
      refine xk_i (y := -1) rfl ?_
      refine lv_istore_n (lv' := [(2, .int (-1)), (0, .ref (b 0)), (1, .int (nI (5 * n)))]) hx hb dX2_shed_21 rfl hl (by decide) rfl (fun ls hl => ?_)
      refine lv_iload_n hx hb dX2_shed_22 rfl (lv_at hl 0 rfl) ?_
      refine lv_if_ge (tgt := 28) hx hb dX2_shed_23 (by decide) (fun c => absurd c (by decide)) (fun c => ?_)
      have e9 : shd S 5 msd V = (ts', V') := by rw [← hq0]; exact shd_done (Or.inr hy.symm) _
      have e8 : (nI 1 : Int32) = bI (over (shd S 5 msd V).2) := by rw [e9]; exact (bI_t hov).symm
      refine lv_iconst (v := nI 1) hx hb dX2_shed_26 (by decide) ?_
      refine xk_i e8 ?_
      refine W.endD hd1 ?_
      exact W.zret hx hb hr (bI_nar _) (fun t ht hW => ⟨⟨_, (ts', mu'), rfl, ⟨rfl, by rw [e9], by rw [e9]; exact hq1⟩, by rw [ht]; exact hP, va_K.moved hW.alike (xk_Kd hK), hD⟩, hS.F ht⟩) hS.2.2 dX2_shed_27
    | some o =>
      refine xk_i (y := nI o) rfl ?_
      have ho := (nx_lt hy.symm).1
      have hm := (nx_lt hy.symm).2
      have hc1 := cm_0 ho hm
      have hc2 := cm_up5 ho hm
      have hlt : i < 5 := by omega
      refine lv_istore_n (lv' := [(2, .int (nI o)), (0, .ref (b 0)), (1, .int (nI (5 * n)))]) hx hb dX2_shed_21 rfl hl (by decide) rfl (fun ls hl => ?_)
      refine lv_iload_n hx hb dX2_shed_22 rfl (lv_at hl 0 rfl) ?_
      refine lv_if_ge (tgt := 28) hx hb dX2_shed_23 (by decide) (fun c => ?_) (fun c => absurd (nI_pos' (by omega)) c)
      refine lv_aload_n hx hb dX2_shed_28 rfl (lv_at hl 1 rfl) ?_
      refine va_get (D := D) (ci := 2) (v := .ref (b 9)) (C := RX2) (T := TX2) (N := 20) hx hb (dr_words hts _) inX2 (xk_od hown) (xk_Kd hK) hP 0 rfl rfl 13 (by decide) (dr_words hts _ (.fieldLink RX2 42 "GridCommonsModel" "used" "[D") (by decide +kernel)) (fun _ h9 => h9) rfl dX2_shed_29 ?_
      refine lv_iload_n hx hb dX2_shed_32 rfl (lv_at hl 2 rfl) ?_
      refine lv_iload_n hx hb dX2_shed_33 rfl (lv_at hl 0 rfl) ?_
      refine lv_iadd hx hb dX2_shed_34 ?_
      refine xk_i (y := nI (5 * n + o)) (nI_add _ _) ?_
      refine lv_dconst0 hx hb dX2_shed_35 ?_
      refine xk_dast hx hb (xk_Kd hK) hP hD hS 9 2 rfl rfl (o := (5 * n + o)) (by omega) (by decide) dX2_shed_36 (fun H locs hP hD hS => ?_)
      have hP : va_P D vwCl (MW b cI cZ cD mth msh mst ts' mbi mpr mba mtn mcl mat mto mak mus (vf_upd mu' (5 * n + o) FP.dconst0) mfs mfb mbo mso mpc mne) H := hP
      have hD : va_D A (MW b cI cZ cD mth msh mst ts' mbi mpr mba mtn mcl mat mto mak mus (vf_upd mu' (5 * n + o) FP.dconst0) mfs mfb mbo mso mpc mne) := hD
      refine lv_aload_n hx hb dX2_shed_37 rfl (lv_at hl 1 rfl) ?_
      refine va_get (D := D) (ci := 2) (v := .ref (b 3)) (C := RX2) (T := TX2) (N := 20) hx hb (dr_words hts _) inX2 (xk_od hown) (xk_Kd hK) hP 0 rfl rfl 3 (by decide) (dr_words hts _ (.fieldLink RX2 17 "GridCommonsModel" "sheds" "[I") (by decide +kernel)) (fun _ h9 => h9) rfl dX2_shed_38 ?_
      refine lv_iload_n hx hb dX2_shed_41 rfl (lv_at hl 0 rfl) ?_
      refine lv_dup2_11 hx hb dX2_shed_42 rfl rfl ?_
      refine xk_iald hx hb (xk_Kd hK) hP 3 0 rfl rfl (o := o) (by omega) (by decide) dX2_shed_43 ?_
      refine lv_iconst (v := nI 1) hx hb dX2_shed_44 (by decide) ?_
      refine lv_iadd hx hb dX2_shed_45 ?_
      refine xk_iast hx hb (xk_Kd hK) hP hD hS 3 0 rfl rfl (o := o) (by omega) (by decide) dX2_shed_46 (fun H locs hP hD hS => ?_)
      have hP : va_P D vwCl (MW b cI cZ cD mth msh mst (upd ts' o ((ts' o) + (nI 1))) mbi mpr mba mtn mcl mat mto mak mus (vf_upd mu' (5 * n + o) FP.dconst0) mfs mfb mbo mso mpc mne) H := hP
      have hD : va_D A (MW b cI cZ cD mth msh mst (upd ts' o ((ts' o) + (nI 1))) mbi mpr mba mtn mcl mat mto mak mus (vf_upd mu' (5 * n + o) FP.dconst0) mfs mfb mbo mso mpc mne) := hD
      refine lv_goto (tgt := 0) hx hb dX2_shed_47 (by decide) ?_
      exact next _ _ _ _ hlt ⟨(upd ts' o (ts' o + nI 1)), (vf_upd mu' (5 * n + o) FP.dconst0), (va_up V' o dZ), (by rw [← hq0, show 5 - i = (5 - (i + 1)) + 1 by omega]; exact (shd_go hov hy.symm _).symm), (by rw [dts_up, hq1]; exact po_up _ _ _ ho), (by omega), hP, hD, hS, hd1, lv_sub hl [1, 2] rfl⟩
