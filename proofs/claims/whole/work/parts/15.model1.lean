/-! GridCommonsModel: asking and the small writes -/
theorem bI_c {p q : Prop} [Decidable p] [Decidable q] (h : p ↔ q) : bI p = bI q := by
  by_cases c : p
  · rw [bI_t c, bI_t (h.mp c)]
  · rw [bI_f c, bI_f (fun z => c (h.mpr z))]
theorem isQ_in {n : Nat} (hn : n ≤ 60) (q : Int32) : (nI 0 ≤ q ∧ q ≤ nI n - nI 1) ↔ isQ n q := by
  unfold isQ
  rw [Int32.le_iff_toInt_le, Int32.le_iff_toInt_le, Int32.le_iff_toInt_le, Int32.lt_iff_toInt_lt, nI_toInt (show n < 2 ^ 31 by omega)]
  have h0 : (nI 0).toInt = 0 := by decide
  have h1 : (0 : Int32).toInt = 0 := by decide
  rw [h0, h1]
  cases n with
  | zero =>
    have h2 : (nI 0 - nI 1).toInt = -1 := by decide
    rw [h2]
    omega
  | succ k =>
    have h2 : nI (k + 1) - nI 1 = nI k := nI_pred k
    rw [h2, nI_toInt (show k < 2 ^ 31 by omega)]
    omega
theorem sumI_c {f g : Nat → Int32} : ∀ {k : Nat}, (∀ j, j < k → f j = g j) → sumI f k = sumI g k
  | 0, _ => rfl
  | k + 1, h => by
    show sumI f k + f k = sumI g k + g k
    rw [sumI_c (k := k) (fun j hj => h j (by omega)), h k (by omega)]
theorem sumI_z0 (f : Nat → Int32) {o : Nat} : ∀ k, k ≤ o → sumI (va_up f o 0) k = sumI f k
  | k, h => sumI_c (fun j hj => if_neg (by omega))
theorem i32_z (s x : Int32) : s + 0 = s + x - x := by
  apply Int32.toBitVec_inj.mp
  simp only [Int32.toBitVec_add, Int32.toBitVec_sub]
  rw [show (0 : Int32).toBitVec = 0#32 from by decide]
  bv_omega
theorem i32_s (s y x : Int32) : s - x + y = s + y - x := by
  apply Int32.toBitVec_inj.mp
  simp only [Int32.toBitVec_add, Int32.toBitVec_sub]
  bv_omega
theorem sumI_z (f : Nat → Int32) {o : Nat} : ∀ k, sumI (va_up f o 0) (o + 1 + k) = sumI f (o + 1 + k) - f o
  | 0 => by
    show sumI (va_up f o 0) o + va_up f o 0 o = sumI f o + f o - f o
    rw [sumI_z0 f o (Nat.le_refl o), show va_up f o 0 o = 0 from if_pos rfl]
    exact i32_z _ _
  | k + 1 => by
    show sumI (va_up f o 0) (o + 1 + k) + va_up f o 0 (o + 1 + k) = sumI f (o + 1 + k) + f (o + 1 + k) - f o
    rw [sumI_z f k, show va_up f o 0 (o + 1 + k) = f (o + 1 + k) from if_neg (by omega)]
    exact i32_s _ _ _
theorem sumI_z5 (f : Nat → Int32) {o : Nat} (ho : o < 5) : sumI (va_up f o 0) 5 = sumI f 5 - f o := by
  have h := sumI_z f (o := o) (4 - o)
  rw [show o + 1 + (4 - o) = 5 by omega] at h
  exact h
theorem u5 (n o : Nat) : nI 5 * nI n + nI o = nI (5 * n + o) := by rw [pk_mul, nI_add]
set_option maxHeartbeats 4000000 in
set_option maxRecDepth 100000 in
theorem mX2_thrown (l : Launch) (D : va_G) (cI cZ cD : ClassId) (b : Nat → Nat) (sz : Nat) (mth : Int32) (msh mst msd : Nat → Int32) (mbi : Nat → UInt64) (mpr mba : UInt64) (mtn mcl : Int32) (mat mto mak : Nat → Int32) (mus mud mfs mfb mbo mso mpc mne : Nat → UInt64)  : Met l yX2_thrown wsX2_thrown ({ frames := 0, cells := 0, slots := 0, locals := 0 } : Room) (va_Pc [.ref (b 0)] (XP D cI cZ cD (MW b cI cZ cD mth msh mst msd mbi mpr mba mtn mcl mat mto mak mus mud mfs mfb mbo mso mpc mne) sz)) (va_Qi (fun (r : Int32) (u : Unit) => r = mth) (fun (u : Unit) t => XB D cI cZ cD (MW b cI cZ cD mth msh mst msd mbi mpr mba mtn mcl mat mto mak mus mud mfs mfb mbo mso mpc mne) (va_A (MW b cI cZ cD mth msh mst msd mbi mpr mba mtn mcl mat mto mak mus mud mfs mfb mbo mso mpc mne) sz) t) (va_A (MW b cI cZ cD mth msh mst msd mbi mpr mba mtn mcl mat mto mak mus mud mfs mfb mbo mso mpc mne) sz)) 0 0 (va_A (MW b cI cZ cD mth msh mst msd mbi mpr mba mtn mcl mat mto mak mus mud mfs mfb mbo mso mpc mne) sz) := by
  refine Met.ofW (cc := cX2_thrown) (maxL := 1) (ret := (some .int)) (by decide +kernel) rfl ?_
  intro p e s m args below meth c s₁ B hml hv
  obtain ⟨rfl, hsz, hP, hK, hD0⟩ := hv
  have hx := B.exec
  have hb := B.bytes
  have hr := B.returns
  have hts := atoms_spec (ws := wsX2_thrown) B.pre
  have hown : s.vm.findClass RX2 = some m.cls := findClass_of_methodNamed B.named
  have hlocks := B.notSynchronized
  subst hsz
  have hD := hD0.self (sz := s.heap.size)
  generalize hAe : va_A (MW b cI cZ cD mth msh mst msd mbi mpr mba mtn mcl mat mto mak mus mud mfs mfb mbo mso mpc mne) s.heap.size = A at hD ⊢
  have hA : ∀ q : Nat, s.heap.size ≤ q → A q := fun q h => by rw [← hAe]; exact Or.inr h
  have hS : va_S A s.heap s.heap [] := va_S.rf
  have hl := lv_entry ([.ref (b 0)]) (n := 1) (Nat.le_of_ble_eq_true rfl)
  rw [lg_entry_eq]
  generalize (lg_sl ([.ref (b 0)]) ++ List.replicate (1 - (lg_sl ([.ref (b 0)])).length) Slot.unset).toArray = ls at hl ⊢
  have hl : lv_has ls 1 [(0, .ref (b 0))] := hl
  have inX2 : ∀ w ∈ wsX20, w ∈ wsX2_thrown := by decide +kernel
  refine lv_aload_n hx hb dX2_thrown_0 rfl (lv_at hl 0 rfl) ?_
  refine va_get (D := D) (ci := 2) (v := .int mth) (C := RX2) (T := TX2) (N := 20) hx hb hts inX2 hown hK hP 0 rfl rfl 0 (by decide) (hts (.fieldLink RX2 63 "GridCommonsModel" "thrown" "I") (by decide +kernel)) (fun _ h9 => h9) rfl dX2_thrown_1 ?_
  exact W.iret hx hb hr (fun t ht hW => ⟨⟨_, (), rfl, rfl, by rw [ht]; exact hP, va_K.moved hW.alike hK, hD⟩, hS.F ht⟩) hS.2.2 dX2_thrown_4
set_option maxHeartbeats 4000000 in
set_option maxRecDepth 100000 in
theorem mX2_holds (l : Launch) (D : va_G) (cI cZ cD : ClassId) (b : Nat → Nat) (sz : Nat) (mth : Int32) (msh mst msd : Nat → Int32) (mbi : Nat → UInt64) (mpr mba : UInt64) (mtn mcl : Int32) (mat mto mak : Nat → Int32) (mus mud mfs mfb mbo mso mpc mne : Nat → UInt64) (k : Int32) : Met l yX2_holds wsX2_holds ({ frames := 0, cells := 0, slots := 0, locals := 0 } : Room) (va_Pc [.ref (b 0), .int k] (XP D cI cZ cD (MW b cI cZ cD mth msh mst msd mbi mpr mba mtn mcl mat mto mak mus mud mfs mfb mbo mso mpc mne) sz)) (va_Qi (fun (r : Int32) (u : Unit) => r = bI (k = 0)) (fun (u : Unit) t => XB D cI cZ cD (MW b cI cZ cD k msh mst msd mbi mpr mba mtn mcl mat mto mak mus mud mfs mfb mbo mso mpc mne) (va_A (MW b cI cZ cD mth msh mst msd mbi mpr mba mtn mcl mat mto mak mus mud mfs mfb mbo mso mpc mne) sz) t) (va_A (MW b cI cZ cD mth msh mst msd mbi mpr mba mtn mcl mat mto mak mus mud mfs mfb mbo mso mpc mne) sz)) 0 0 (va_A (MW b cI cZ cD mth msh mst msd mbi mpr mba mtn mcl mat mto mak mus mud mfs mfb mbo mso mpc mne) sz) := by
  refine Met.ofW (cc := cX2_holds) (maxL := 2) (ret := (some .boolean)) (by decide +kernel) rfl ?_
  intro p e s m args below meth c s₁ B hml hv
  obtain ⟨rfl, hsz, hP, hK, hD0⟩ := hv
  have hx := B.exec
  have hb := B.bytes
  have hr := B.returns
  have hts := atoms_spec (ws := wsX2_holds) B.pre
  have hown : s.vm.findClass RX2 = some m.cls := findClass_of_methodNamed B.named
  have hlocks := B.notSynchronized
  subst hsz
  have hD := hD0.self (sz := s.heap.size)
  generalize hAe : va_A (MW b cI cZ cD mth msh mst msd mbi mpr mba mtn mcl mat mto mak mus mud mfs mfb mbo mso mpc mne) s.heap.size = A at hD ⊢
  have hA : ∀ q : Nat, s.heap.size ≤ q → A q := fun q h => by rw [← hAe]; exact Or.inr h
  have hS : va_S A s.heap s.heap [] := va_S.rf
  have hl := lv_entry ([.ref (b 0), .int k]) (n := 2) (Nat.le_of_ble_eq_true rfl)
  rw [lg_entry_eq]
  generalize (lg_sl ([.ref (b 0), .int k]) ++ List.replicate (2 - (lg_sl ([.ref (b 0), .int k])).length) Slot.unset).toArray = ls at hl ⊢
  have hl : lv_has ls 2 [(0, .ref (b 0)), (1, .int k)] := hl
  have inX2 : ∀ w ∈ wsX20, w ∈ wsX2_holds := by decide +kernel
  refine lv_aload_n hx hb dX2_holds_0 rfl (lv_at hl 0 rfl) ?_
  refine lv_iload_n hx hb dX2_holds_1 rfl (lv_at hl 1 rfl) ?_
  refine va_put (D := D) (ci := 2) (v := .int k) (ty := .int) (C := RX2) (T := TX2) (N := 20) hx hb hts inX2 tyX2 tyX2_ok nmX2 hown hK hP hD hS 0 rfl rfl 0 (by decide) (hts (.fieldLink RX2 63 "GridCommonsModel" "thrown" "I") (by decide +kernel)) (fun _ h9 => h9) rfl (by decide +kernel) rfl rfl (Nat.le_of_ble_eq_true rfl) dX2_holds_2 (fun H locs hP hD hS => ?_)
  have hP : va_P D vwCl (MW b cI cZ cD k msh mst msd mbi mpr mba mtn mcl mat mto mak mus mud mfs mfb mbo mso mpc mne) H := hP
  have hD : va_D A (MW b cI cZ cD k msh mst msd mbi mpr mba mtn mcl mat mto mak mus mud mfs mfb mbo mso mpc mne) := hD
  refine lv_iload_n hx hb dX2_holds_5 rfl (lv_at hl 1 rfl) ?_
  refine lv_if_ne (tgt := 13) hx hb dX2_holds_6 (by decide) (fun c => ?_) (fun c => ?_)
  · skip
    refine lv_iconst (v := nI 0) hx hb dX2_holds_13 (by decide) ?_
    have e9 : (nI 0 : Int32) = bI (k = 0) := (bI_f c).symm
    refine xk_i e9 ?_
    exact W.zret hx hb hr (bI_nar _) (fun t ht hW => ⟨⟨_, (), rfl, rfl, by rw [ht]; exact hP, va_K.moved hW.alike hK, hD⟩, hS.F ht⟩) hS.2.2 dX2_holds_14
  · skip
    refine lv_iconst (v := nI 1) hx hb dX2_holds_9 (by decide) ?_
    refine lv_goto (tgt := 14) hx hb dX2_holds_10 (by decide) ?_
    have e9 : (nI 1 : Int32) = bI (k = 0) := (bI_t c).symm
    refine xk_i e9 ?_
    exact W.zret hx hb hr (bI_nar _) (fun t ht hW => ⟨⟨_, (), rfl, rfl, by rw [ht]; exact hP, va_K.moved hW.alike hK, hD⟩, hS.F ht⟩) hS.2.2 dX2_holds_14
set_option maxHeartbeats 4000000 in
set_option maxRecDepth 100000 in
theorem mX2_others (l : Launch) (D : va_G) (cI cZ cD : ClassId) (b : Nat → Nat) (sz : Nat) (mth : Int32) (msh mst msd : Nat → Int32) (mbi : Nat → UInt64) (mpr mba : UInt64) (mtn mcl : Int32) (mat mto mak : Nat → Int32) (mus mud mfs mfb mbo mso mpc mne : Nat → UInt64) (o : Nat) (ho : o < 5) : Met l yX2_others wsX2_others ({ frames := 0, cells := 0, slots := 0, locals := 0 } : Room) (va_Pc [.ref (b 0), .int (nI o)] (XP D cI cZ cD (MW b cI cZ cD mth msh mst msd mbi mpr mba mtn mcl mat mto mak mus mud mfs mfb mbo mso mpc mne) sz)) (va_Qi (fun (r : Int32) (u : Unit) => r = sumI msh 5 - msh o) (fun (u : Unit) t => XB D cI cZ cD (MW b cI cZ cD mth msh mst msd mbi mpr mba mtn mcl mat mto mak mus mud mfs mfb mbo mso mpc mne) (va_A (MW b cI cZ cD mth msh mst msd mbi mpr mba mtn mcl mat mto mak mus mud mfs mfb mbo mso mpc mne) sz) t) (va_A (MW b cI cZ cD mth msh mst msd mbi mpr mba mtn mcl mat mto mak mus mud mfs mfb mbo mso mpc mne) sz)) 0 0 (va_A (MW b cI cZ cD mth msh mst msd mbi mpr mba mtn mcl mat mto mak mus mud mfs mfb mbo mso mpc mne) sz) := by
  refine Met.ofW (cc := cX2_others) (maxL := 4) (ret := (some .int)) (by decide +kernel) rfl ?_
  intro p e s m args below meth c s₁ B hml hv
  obtain ⟨rfl, hsz, hP, hK, hD0⟩ := hv
  have hx := B.exec
  have hb := B.bytes
  have hr := B.returns
  have hts := atoms_spec (ws := wsX2_others) B.pre
  have hown : s.vm.findClass RX2 = some m.cls := findClass_of_methodNamed B.named
  have hlocks := B.notSynchronized
  subst hsz
  have hD := hD0.self (sz := s.heap.size)
  generalize hAe : va_A (MW b cI cZ cD mth msh mst msd mbi mpr mba mtn mcl mat mto mak mus mud mfs mfb mbo mso mpc mne) s.heap.size = A at hD ⊢
  have hA : ∀ q : Nat, s.heap.size ≤ q → A q := fun q h => by rw [← hAe]; exact Or.inr h
  have hS : va_S A s.heap s.heap [] := va_S.rf
  have hl := lv_entry ([.ref (b 0), .int (nI o)]) (n := 4) (Nat.le_of_ble_eq_true rfl)
  rw [lg_entry_eq]
  generalize (lg_sl ([.ref (b 0), .int (nI o)]) ++ List.replicate (4 - (lg_sl ([.ref (b 0), .int (nI o)])).length) Slot.unset).toArray = ls at hl ⊢
  have hl : lv_has ls 4 [(0, .ref (b 0)), (1, .int (nI o))] := hl
  have inX2 : ∀ w ∈ wsX20, w ∈ wsX2_others := by decide +kernel
  refine lv_iconst (v := nI 0) hx hb dX2_others_0 (by decide) ?_
  refine lv_istore_n (lv' := [(2, .int (nI 0)), (0, .ref (b 0)), (1, .int (nI o))]) hx hb dX2_others_1 rfl hl (by decide) rfl (fun ls hl => ?_)
  refine lv_iconst (v := nI 0) hx hb dX2_others_2 (by decide) ?_
  refine lv_istore_n (lv' := [(3, .int (nI 0)), (2, .int (nI 0)), (0, .ref (b 0)), (1, .int (nI o))]) hx hb dX2_others_3 rfl hl (by decide) rfl (fun ls hl => ?_)
  refine xk_loopP (fun i H locs ls => ∃ (z : Int32), (z = sumI (va_up msh o 0) i) ∧ (va_P D vwCl (MW b cI cZ cD mth msh mst msd mbi mpr mba mtn mcl mat mto mak mus mud mfs mfb mbo mso mpc mne) H) ∧ (va_D A (MW b cI cZ cD mth msh mst msd mbi mpr mba mtn mcl mat mto mak mus mud mfs mfb mbo mso mpc mne)) ∧ (va_S A s.heap H locs) ∧ (lv_has ls 4 [(0, .ref (b 0)), (1, .int (nI o)), (2, .int z), (3, .int (nI i))])) 5 ?_ (i := 0) (Nat.zero_le _) ⟨0, rfl, hP, hD, hS, lv_sub hl [2, 3, 1, 0] rfl⟩
  intro i H locs ls hi hI next
  obtain ⟨z, hq0, hP, hD, hS, hl⟩ := hI
  refine lv_iload_n hx hb dX2_others_4 rfl (lv_at hl 3 rfl) ?_
  refine lv_iconst (v := nI 5) hx hb dX2_others_5 (by decide) ?_
  refine lv_icmp_ge (tgt := 33) hx hb dX2_others_6 (by decide) (fun c => ?_) (fun c => ?_)
  · skip
    obtain rfl := xk_ge hi (by decide) c
    refine lv_iload_n hx hb dX2_others_33 rfl (lv_at hl 2 rfl) ?_
    exact W.iret hx hb hr (fun t ht hW => ⟨⟨_, (), rfl, (hq0.trans (sumI_z5 msh ho)), by rw [ht]; exact hP, va_K.moved hW.alike hK, hD⟩, hS.F ht⟩) hS.2.2 dX2_others_34
  · skip
    have hlt := xk_nge hi (by decide) c
    refine lv_iload_n hx hb dX2_others_9 rfl (lv_at hl 2 rfl) ?_
    refine lv_iload_n hx hb dX2_others_10 rfl (lv_at hl 3 rfl) ?_
    refine lv_iload_n hx hb dX2_others_11 rfl (lv_at hl 1 rfl) ?_
    refine lv_icmp_ne (tgt := 19) hx hb dX2_others_12 (by decide) (fun c1 => ?_) (fun c1 => ?_)
    · skip
      have hne : ¬ i = o := fun q => c1 (by rw [q])
      refine lv_aload_n hx hb dX2_others_19 rfl (lv_at hl 0 rfl) ?_
      refine va_get (D := D) (ci := 2) (v := .ref (b 1)) (C := RX2) (T := TX2) (N := 20) hx hb hts inX2 hown hK hP 0 rfl rfl 1 (by decide) (hts (.fieldLink RX2 7 "GridCommonsModel" "shares" "[I") (by decide +kernel)) (fun _ h9 => h9) rfl dX2_others_20 ?_
      refine lv_iload_n hx hb dX2_others_23 rfl (lv_at hl 3 rfl) ?_
      refine xk_iald hx hb hK hP 1 0 rfl rfl (o := i) (by omega) (by decide) dX2_others_24 ?_
      refine lv_iadd hx hb dX2_others_25 ?_
      refine lv_istore_n (lv' := [(2, .int (z + (msh i))), (0, .ref (b 0)), (1, .int (nI o)), (3, .int (nI i))]) hx hb dX2_others_26 rfl hl (by decide) rfl (fun ls hl => ?_)
      refine lv_iinc (v := nI (i + 1)) (lv' := [(3, .int (nI (i + 1))), (2, .int (z + (msh i))), (0, .ref (b 0)), (1, .int (nI o))]) hx hb dX2_others_27 hl (k := 3) rfl (nI_1 i) (by decide) rfl (fun ls hl => ?_)
      refine lv_goto (tgt := 4) hx hb dX2_others_30 (by decide) ?_
      exact next _ _ _ hlt ⟨(z + (msh i)), (by rw [hq0]; show _ = sumI (va_up msh o 0) i + va_up msh o 0 i; rw [show va_up msh o 0 i = msh i from if_neg hne]), hP, hD, hS, lv_sub hl [2, 3, 1, 0] rfl⟩
    · skip
      have heq : i = o := (nI_eq (by omega) (by omega)).mp c1
      refine lv_iconst (v := nI 0) hx hb dX2_others_15 (by decide) ?_
      refine lv_goto (tgt := 25) hx hb dX2_others_16 (by decide) ?_
      refine lv_iadd hx hb dX2_others_25 ?_
      refine lv_istore_n (lv' := [(2, .int (z + (nI 0))), (0, .ref (b 0)), (1, .int (nI o)), (3, .int (nI i))]) hx hb dX2_others_26 rfl hl (by decide) rfl (fun ls hl => ?_)
      refine lv_iinc (v := nI (i + 1)) (lv' := [(3, .int (nI (i + 1))), (2, .int (z + (nI 0))), (0, .ref (b 0)), (1, .int (nI o))]) hx hb dX2_others_27 hl (k := 3) rfl (nI_1 i) (by decide) rfl (fun ls hl => ?_)
      refine lv_goto (tgt := 4) hx hb dX2_others_30 (by decide) ?_
      exact next _ _ _ hlt ⟨(z + (nI 0)), (by rw [hq0]; show _ = sumI (va_up msh o 0) i + va_up msh o 0 i; rw [show va_up msh o 0 i = 0 from if_pos heq]; rfl), hP, hD, hS, lv_sub hl [2, 3, 1, 0] rfl⟩
set_option maxHeartbeats 4000000 in
set_option maxRecDepth 100000 in
theorem mX2_setShareV (l : Launch) (D : va_G) (cI cZ cD : ClassId) (b : Nat → Nat) (sz : Nat) (mth : Int32) (msh mst msd : Nat → Int32) (mbi : Nat → UInt64) (mpr mba : UInt64) (mtn mcl : Int32) (mat mto mak : Nat → Int32) (mus mud mfs mfb mbo mso mpc mne : Nat → UInt64) (o : Nat) (share : Int32) (ho : o < 5) (hsh : inR share 0 4) (hok : okS msh (nI o) share) : Met l yX2_setShare wsX2_setShare ({ frames := 2, cells := 0, slots := 0, locals := 42 } : Room) (va_Pc [.ref (b 0), .int (nI o), .int share] (XP D cI cZ cD (MW b cI cZ cD mth msh mst msd mbi mpr mba mtn mcl mat mto mak mus mud mfs mfb mbo mso mpc mne) sz)) (va_Qi (fun (r : Int32) (u : Unit) => r = msh o) (fun (u : Unit) t => XB D cI cZ cD (MW b cI cZ cD 0 (upd msh o share) mst msd mbi mpr mba mtn mcl mat mto mak mus mud mfs mfb mbo mso mpc mne) (va_A (MW b cI cZ cD mth msh mst msd mbi mpr mba mtn mcl mat mto mak mus mud mfs mfb mbo mso mpc mne) sz) t) (va_A (MW b cI cZ cD mth msh mst msd mbi mpr mba mtn mcl mat mto mak mus mud mfs mfb mbo mso mpc mne) sz)) 0 0 (va_A (MW b cI cZ cD mth msh mst msd mbi mpr mba mtn mcl mat mto mak mus mud mfs mfb mbo mso mpc mne) sz) := by
  refine Met.ofW (cc := cX2_setShare) (maxL := 5) (ret := (some .int)) (by decide +kernel) rfl ?_
  intro p e s m args below meth c s₁ B hml hv
  obtain ⟨rfl, hsz, hP, hK, hD0⟩ := hv
  have hx := B.exec
  have hb := B.bytes
  have hr := B.returns
  have hts := atoms_spec (ws := wsX2_setShare) B.pre
  have hown : s.vm.findClass RX2 = some m.cls := findClass_of_methodNamed B.named
  have hlocks := B.notSynchronized
  subst hsz
  have hD := hD0.self (sz := s.heap.size)
  generalize hAe : va_A (MW b cI cZ cD mth msh mst msd mbi mpr mba mtn mcl mat mto mak mus mud mfs mfb mbo mso mpc mne) s.heap.size = A at hD ⊢
  have hA : ∀ q : Nat, s.heap.size ≤ q → A q := fun q h => by rw [← hAe]; exact Or.inr h
  have hS : va_S A s.heap s.heap [] := va_S.rf
  have hl := lv_entry ([.ref (b 0), .int (nI o), .int share]) (n := 5) (Nat.le_of_ble_eq_true rfl)
  rw [lg_entry_eq]
  generalize (lg_sl ([.ref (b 0), .int (nI o), .int share]) ++ List.replicate (5 - (lg_sl ([.ref (b 0), .int (nI o), .int share])).length) Slot.unset).toArray = ls at hl ⊢
  have hl : lv_has ls 5 [(0, .ref (b 0)), (1, .int (nI o)), (2, .int share)] := hl
  have inX2 : ∀ w ∈ wsX20, w ∈ wsX2_setShare := by decide +kernel
  refine lv_iload_n hx hb dX2_setShare_0 rfl (lv_at hl 1 rfl) ?_
  refine vp_callSi (va_Run.run (va_runS (As := [.int (nI o)]) (rest := []) ⟨hx, hb, hml, hown, hts⟩ (mX2_isOwner l (nI o)) (va_cwS 1 hts gX2_setShare_X2_isOwner rfl rfl rfl (by decide +kernel) ⟨Nat.le_of_ble_eq_true rfl, Nat.le_of_ble_eq_true rfl⟩) ⟨fun a U g mk q => q, fun U hU hW => ⟨rfl, trivial⟩⟩ rfl rfl hl.1 rfl (lv_room (Nat.le_of_ble_eq_true rfl)) dX2_setShare_1 ⟨Nat.le_of_ble_eq_true rfl, Nat.le_of_ble_eq_true rfl⟩)) (fun r hr1 => ?_)
  obtain rfl : r = 1 := hr1.trans (bI_t (nI_inR (n := 4) (by omega) (by decide)))
  refine lv_if_eq (tgt := 20) hx hb dX2_setShare_4 (by decide) (fun c => absurd c (by decide)) (fun c => ?_)
  refine lv_iload_n hx hb dX2_setShare_7 rfl (lv_at hl 2 rfl) ?_
  refine lv_iconst (v := nI 0) hx hb dX2_setShare_8 (by decide) ?_
  refine lv_iconst (v := nI 4) hx hb dX2_setShare_9 (by decide) ?_
  refine vp_callSi (va_Run.run (va_runS (As := [.int share, .int (nI 0), .int (nI 4)]) (rest := []) ⟨hx, hb, hml, hown, hts⟩ (mX2_in l share (nI 0) (nI 4)) (va_cwS 3 hts gX2_setShare_X2_in rfl rfl rfl (by decide +kernel) ⟨Nat.le_of_ble_eq_true rfl, Nat.le_of_ble_eq_true rfl⟩) ⟨fun a U g mk q => q, fun U hU hW => ⟨rfl, trivial⟩⟩ rfl rfl hl.1 rfl (lv_room (Nat.le_of_ble_eq_true rfl)) dX2_setShare_10 ⟨Nat.le_of_ble_eq_true rfl, Nat.le_of_ble_eq_true rfl⟩)) (fun r hr1 => ?_)
  obtain rfl : r = 1 := hr1.trans (bI_t (hsh))
  refine lv_if_eq (tgt := 20) hx hb dX2_setShare_13 (by decide) (fun c => absurd c (by decide)) (fun c => ?_)
  refine lv_iconst (v := nI 1) hx hb dX2_setShare_16 (by decide) ?_
  refine lv_goto (tgt := 21) hx hb dX2_setShare_17 (by decide) ?_
  refine lv_istore_n (lv' := [(3, .int (nI 1)), (0, .ref (b 0)), (1, .int (nI o)), (2, .int share)]) hx hb dX2_setShare_21 rfl hl (by decide) rfl (fun ls hl => ?_)
  refine lv_aload_n hx hb dX2_setShare_22 rfl (lv_at hl 1 rfl) ?_
  refine lv_iload_n hx hb dX2_setShare_23 rfl (lv_at hl 0 rfl) ?_
  refine lv_if_ne (tgt := 31) hx hb dX2_setShare_24 (by decide) (fun c => ?_) (fun c => absurd c (by decide))
  refine lv_aload_n hx hb dX2_setShare_31 rfl (lv_at hl 1 rfl) ?_
  refine lv_iload_n hx hb dX2_setShare_32 rfl (lv_at hl 2 rfl) ?_
  have hFc := va_free (wc := MW b cI cZ cD mth msh mst msd mbi mpr mba mtn mcl mat mto mak mus mud mfs mfb mbo mso mpc mne) hD hS hA [0, 1, 2, 3, 4, 5, 6, 7, 8, 9, 10, 11, 12, 13, 14, 15] rfl
  refine va_calli (va_runV (As := [.int (nI o)]) (rest := [.ref (b 0)]) ⟨hx, hb, hml, hown, hts⟩ (mX2_others l D cI cZ cD b _ mth msh mst msd mbi mpr mba mtn mcl mat mto mak mus mud mfs mfb mbo mso mpc mne o ho) (cwV 1 hts gX2_setShare_X2_others rfl rfl rfl (by decide +kernel) ⟨Nat.le_of_ble_eq_true rfl, Nat.le_of_ble_eq_true rfl⟩) ⟨xk_blind, va_recv hK hP (ci := 2) (q0 := 0) rfl rfl, xk_pre hP hK hD⟩ rfl rfl hl.1 rfl (lv_room (Nat.le_of_ble_eq_true rfl)) dX2_setShare_33 ⟨Nat.le_of_ble_eq_true rfl, Nat.le_of_ble_eq_true rfl⟩) hS (fun q _ h => hFc q h) hFc (fun r u t H locs ht hvm hw hB hz1 hk1 hS => ?_)
  obtain ⟨hP, -, hD1⟩ := hB
  rw [ht] at hP
  have hD := hD1.weaken (B := A) (fun _ _ _ h => hFc _ h)
  have hP : va_P D vwCl (MW b cI cZ cD mth msh mst msd mbi mpr mba mtn mcl mat mto mak mus mud mfs mfb mbo mso mpc mne) H := hP
  have hD : va_D A (MW b cI cZ cD mth msh mst msd mbi mpr mba mtn mcl mat mto mak mus mud mfs mfb mbo mso mpc mne) := hD
  subst hw
  refine lv_iload_n hx hb dX2_setShare_36 rfl (lv_at hl 3 rfl) ?_
  refine lv_iadd hx hb dX2_setShare_37 ?_
  refine lv_iconst (v := nI 4) hx hb dX2_setShare_38 (by decide) ?_
  refine lv_icmp_le (tgt := 46) hx hb dX2_setShare_39 (by decide) (fun c => ?_) (fun c => absurd ((okS_nI ho).mp hok) c)
  refine lv_iconst (v := nI 0) hx hb dX2_setShare_46 (by decide) ?_
  have hFc := va_free (wc := MW b cI cZ cD mth msh mst msd mbi mpr mba mtn mcl mat mto mak mus mud mfs mfb mbo mso mpc mne) hD hS hA [0, 1, 2, 3, 4, 5, 6, 7, 8, 9, 10, 11, 12, 13, 14, 15] rfl
  refine va_calli (va_runV (As := [.int (nI 0)]) (rest := []) ⟨hx, hb, hml, hown, hts⟩ (mX2_holds l D cI cZ cD b _ mth msh mst msd mbi mpr mba mtn mcl mat mto mak mus mud mfs mfb mbo mso mpc mne (0)) (cwV 1 hts gX2_setShare_X2_holds rfl rfl rfl (by decide +kernel) ⟨Nat.le_of_ble_eq_true rfl, Nat.le_of_ble_eq_true rfl⟩) ⟨xk_blind, va_recv hK hP (ci := 2) (q0 := 0) rfl rfl, xk_pre hP hK hD⟩ rfl rfl hl.1 rfl (lv_room (Nat.le_of_ble_eq_true rfl)) dX2_setShare_47 ⟨Nat.le_of_ble_eq_true rfl, Nat.le_of_ble_eq_true rfl⟩) hS (fun q _ h => hFc q h) hFc (fun r u t H locs ht hvm hw hB hz1 hk1 hS => ?_)
  obtain ⟨hP, -, hD1⟩ := hB
  rw [ht] at hP
  have hD := hD1.weaken (B := A) (fun _ _ _ h => hFc _ h)
  have hP : va_P D vwCl (MW b cI cZ cD 0 msh mst msd mbi mpr mba mtn mcl mat mto mak mus mud mfs mfb mbo mso mpc mne) H := hP
  have hD : va_D A (MW b cI cZ cD 0 msh mst msd mbi mpr mba mtn mcl mat mto mak mus mud mfs mfb mbo mso mpc mne) := hD
  obtain rfl : r = 1 := hw.trans (bI_t (by decide))
  refine lv_if_ne (tgt := 55) hx hb dX2_setShare_50 (by decide) (fun c => ?_) (fun c => absurd c (by decide))
  refine lv_aload_n hx hb dX2_setShare_55 rfl (lv_at hl 1 rfl) ?_
  refine va_get (D := D) (ci := 2) (v := .ref (b 1)) (C := RX2) (T := TX2) (N := 20) hx hb hts inX2 hown hK hP 0 rfl rfl 1 (by decide) (hts (.fieldLink RX2 7 "GridCommonsModel" "shares" "[I") (by decide +kernel)) (fun _ h9 => h9) rfl dX2_setShare_56 ?_
  refine lv_iload_n hx hb dX2_setShare_59 rfl (lv_at hl 2 rfl) ?_
  refine xk_iald hx hb hK hP 1 0 rfl rfl (o := o) (by omega) (by decide) dX2_setShare_60 ?_
  refine lv_istore (lv' := [(4, .int (msh o)), (3, .int (nI 1)), (0, .ref (b 0)), (1, .int (nI o)), (2, .int share)]) hx hb dX2_setShare_61 hl (by decide) rfl (fun ls hl => ?_)
  refine lv_aload_n hx hb dX2_setShare_63 rfl (lv_at hl 2 rfl) ?_
  refine va_get (D := D) (ci := 2) (v := .ref (b 1)) (C := RX2) (T := TX2) (N := 20) hx hb hts inX2 hown hK hP 0 rfl rfl 1 (by decide) (hts (.fieldLink RX2 7 "GridCommonsModel" "shares" "[I") (by decide +kernel)) (fun _ h9 => h9) rfl dX2_setShare_64 ?_
  refine lv_iload_n hx hb dX2_setShare_67 rfl (lv_at hl 3 rfl) ?_
  refine lv_iload_n hx hb dX2_setShare_68 rfl (lv_at hl 4 rfl) ?_
  refine xk_iast hx hb hK hP hD hS 1 0 rfl rfl (o := o) (by omega) (by decide) dX2_setShare_69 (fun H locs hP hD hS => ?_)
  have hP : va_P D vwCl (MW b cI cZ cD 0 (upd msh o share) mst msd mbi mpr mba mtn mcl mat mto mak mus mud mfs mfb mbo mso mpc mne) H := hP
  have hD : va_D A (MW b cI cZ cD 0 (upd msh o share) mst msd mbi mpr mba mtn mcl mat mto mak mus mud mfs mfb mbo mso mpc mne) := hD
  refine lv_iload hx hb dX2_setShare_70 (lv_at hl 0 rfl) ?_
  exact W.iret hx hb hr (fun t ht hW => ⟨⟨_, (), rfl, rfl, by rw [ht]; exact hP, va_K.moved hW.alike hK, hD⟩, hS.F ht⟩) hS.2.2 dX2_setShare_72
set_option maxHeartbeats 4000000 in
set_option maxRecDepth 100000 in
theorem mX2_setShareX (l : Launch) (D : va_G) (cI cZ cD : ClassId) (b : Nat → Nat) (sz : Nat) (mth : Int32) (msh mst msd : Nat → Int32) (mbi : Nat → UInt64) (mpr mba : UInt64) (mtn mcl : Int32) (mat mto mak : Nat → Int32) (mus mud mfs mfb mbo mso mpc mne : Nat → UInt64) (x share : Int32) (hbad : ¬ (inR x 0 4 ∧ inR share 0 4 ∧ okS msh x share)) : Met l yX2_setShare wsX2_setShare ({ frames := 2, cells := 0, slots := 0, locals := 42 } : Room) (va_Pc [.ref (b 0), .int x, .int share] (XP D cI cZ cD (MW b cI cZ cD mth msh mst msd mbi mpr mba mtn mcl mat mto mak mus mud mfs mfb mbo mso mpc mne) sz)) (va_Qi (fun (r : Int32) (u : Int32) => r = 0 ∧ ((u = 1 ∧ ¬ (inR x 0 4 ∧ inR share 0 4)) ∨ (u = 2 ∧ inR x 0 4 ∧ inR share 0 4 ∧ ¬ okS msh x share))) (fun (u : Int32) t => XB D cI cZ cD (MW b cI cZ cD u msh mst msd mbi mpr mba mtn mcl mat mto mak mus mud mfs mfb mbo mso mpc mne) (va_A (MW b cI cZ cD mth msh mst msd mbi mpr mba mtn mcl mat mto mak mus mud mfs mfb mbo mso mpc mne) sz) t) (va_A (MW b cI cZ cD mth msh mst msd mbi mpr mba mtn mcl mat mto mak mus mud mfs mfb mbo mso mpc mne) sz)) 0 0 (va_A (MW b cI cZ cD mth msh mst msd mbi mpr mba mtn mcl mat mto mak mus mud mfs mfb mbo mso mpc mne) sz) := by
  refine Met.ofW (cc := cX2_setShare) (maxL := 5) (ret := (some .int)) (by decide +kernel) rfl ?_
  intro p e s m args below meth c s₁ B hml hv
  obtain ⟨rfl, hsz, hP, hK, hD0⟩ := hv
  have hx := B.exec
  have hb := B.bytes
  have hr := B.returns
  have hts := atoms_spec (ws := wsX2_setShare) B.pre
  have hown : s.vm.findClass RX2 = some m.cls := findClass_of_methodNamed B.named
  have hlocks := B.notSynchronized
  subst hsz
  have hD := hD0.self (sz := s.heap.size)
  generalize hAe : va_A (MW b cI cZ cD mth msh mst msd mbi mpr mba mtn mcl mat mto mak mus mud mfs mfb mbo mso mpc mne) s.heap.size = A at hD ⊢
  have hA : ∀ q : Nat, s.heap.size ≤ q → A q := fun q h => by rw [← hAe]; exact Or.inr h
  have hS : va_S A s.heap s.heap [] := va_S.rf
  have hl := lv_entry ([.ref (b 0), .int x, .int share]) (n := 5) (Nat.le_of_ble_eq_true rfl)
  rw [lg_entry_eq]
  generalize (lg_sl ([.ref (b 0), .int x, .int share]) ++ List.replicate (5 - (lg_sl ([.ref (b 0), .int x, .int share])).length) Slot.unset).toArray = ls at hl ⊢
  have hl : lv_has ls 5 [(0, .ref (b 0)), (1, .int x), (2, .int share)] := hl
  have inX2 : ∀ w ∈ wsX20, w ∈ wsX2_setShare := by decide +kernel
  refine lv_iload_n hx hb dX2_setShare_0 rfl (lv_at hl 1 rfl) ?_
  by_cases h1 : inR x 0 4
  · skip
    refine vp_callSi (va_Run.run (va_runS (As := [.int x]) (rest := []) ⟨hx, hb, hml, hown, hts⟩ (mX2_isOwner l x) (va_cwS 1 hts gX2_setShare_X2_isOwner rfl rfl rfl (by decide +kernel) ⟨Nat.le_of_ble_eq_true rfl, Nat.le_of_ble_eq_true rfl⟩) ⟨fun a U g mk q => q, fun U hU hW => ⟨rfl, trivial⟩⟩ rfl rfl hl.1 rfl (lv_room (Nat.le_of_ble_eq_true rfl)) dX2_setShare_1 ⟨Nat.le_of_ble_eq_true rfl, Nat.le_of_ble_eq_true rfl⟩)) (fun r hr1 => ?_)
    obtain rfl : r = 1 := hr1.trans (bI_t (h1))
    refine lv_if_eq (tgt := 20) hx hb dX2_setShare_4 (by decide) (fun c => absurd c (by decide)) (fun c => ?_)
    refine lv_iload_n hx hb dX2_setShare_7 rfl (lv_at hl 2 rfl) ?_
    refine lv_iconst (v := nI 0) hx hb dX2_setShare_8 (by decide) ?_
    refine lv_iconst (v := nI 4) hx hb dX2_setShare_9 (by decide) ?_
    by_cases h2 : inR share 0 4
    · skip
      refine vp_callSi (va_Run.run (va_runS (As := [.int share, .int (nI 0), .int (nI 4)]) (rest := []) ⟨hx, hb, hml, hown, hts⟩ (mX2_in l share (nI 0) (nI 4)) (va_cwS 3 hts gX2_setShare_X2_in rfl rfl rfl (by decide +kernel) ⟨Nat.le_of_ble_eq_true rfl, Nat.le_of_ble_eq_true rfl⟩) ⟨fun a U g mk q => q, fun U hU hW => ⟨rfl, trivial⟩⟩ rfl rfl hl.1 rfl (lv_room (Nat.le_of_ble_eq_true rfl)) dX2_setShare_10 ⟨Nat.le_of_ble_eq_true rfl, Nat.le_of_ble_eq_true rfl⟩)) (fun r hr1 => ?_)
      obtain rfl : r = 1 := hr1.trans (bI_t (h2))
      refine lv_if_eq (tgt := 20) hx hb dX2_setShare_13 (by decide) (fun c => absurd c (by decide)) (fun c => ?_)
      obtain ⟨o, ho4, rfl⟩ := inR_nI (n := 4) (by decide) h1
      have ho : o < 5 := by omega
      refine lv_iconst (v := nI 1) hx hb dX2_setShare_16 (by decide) ?_
      refine lv_goto (tgt := 21) hx hb dX2_setShare_17 (by decide) ?_
      refine lv_istore_n (lv' := [(3, .int (nI 1)), (0, .ref (b 0)), (1, .int (nI o)), (2, .int share)]) hx hb dX2_setShare_21 rfl hl (by decide) rfl (fun ls hl => ?_)
      refine lv_aload_n hx hb dX2_setShare_22 rfl (lv_at hl 1 rfl) ?_
      refine lv_iload_n hx hb dX2_setShare_23 rfl (lv_at hl 0 rfl) ?_
      refine lv_if_ne (tgt := 31) hx hb dX2_setShare_24 (by decide) (fun c => ?_) (fun c => absurd c (by decide))
      refine lv_aload_n hx hb dX2_setShare_31 rfl (lv_at hl 1 rfl) ?_
      refine lv_iload_n hx hb dX2_setShare_32 rfl (lv_at hl 2 rfl) ?_
      have hFc := va_free (wc := MW b cI cZ cD mth msh mst msd mbi mpr mba mtn mcl mat mto mak mus mud mfs mfb mbo mso mpc mne) hD hS hA [0, 1, 2, 3, 4, 5, 6, 7, 8, 9, 10, 11, 12, 13, 14, 15] rfl
      refine va_calli (va_runV (As := [.int (nI o)]) (rest := [.ref (b 0)]) ⟨hx, hb, hml, hown, hts⟩ (mX2_others l D cI cZ cD b _ mth msh mst msd mbi mpr mba mtn mcl mat mto mak mus mud mfs mfb mbo mso mpc mne o ho) (cwV 1 hts gX2_setShare_X2_others rfl rfl rfl (by decide +kernel) ⟨Nat.le_of_ble_eq_true rfl, Nat.le_of_ble_eq_true rfl⟩) ⟨xk_blind, va_recv hK hP (ci := 2) (q0 := 0) rfl rfl, xk_pre hP hK hD⟩ rfl rfl hl.1 rfl (lv_room (Nat.le_of_ble_eq_true rfl)) dX2_setShare_33 ⟨Nat.le_of_ble_eq_true rfl, Nat.le_of_ble_eq_true rfl⟩) hS (fun q _ h => hFc q h) hFc (fun r u t H locs ht hvm hw hB hz1 hk1 hS => ?_)
      obtain ⟨hP, -, hD1⟩ := hB
      rw [ht] at hP
      have hD := hD1.weaken (B := A) (fun _ _ _ h => hFc _ h)
      have hP : va_P D vwCl (MW b cI cZ cD mth msh mst msd mbi mpr mba mtn mcl mat mto mak mus mud mfs mfb mbo mso mpc mne) H := hP
      have hD : va_D A (MW b cI cZ cD mth msh mst msd mbi mpr mba mtn mcl mat mto mak mus mud mfs mfb mbo mso mpc mne) := hD
      subst hw
      have hno : ¬ okS msh (nI o) share := fun z => hbad ⟨h1, h2, z⟩
      refine lv_iload_n hx hb dX2_setShare_36 rfl (lv_at hl 3 rfl) ?_
      refine lv_iadd hx hb dX2_setShare_37 ?_
      refine lv_iconst (v := nI 4) hx hb dX2_setShare_38 (by decide) ?_
      refine lv_icmp_le (tgt := 46) hx hb dX2_setShare_39 (by decide) (fun c => absurd ((okS_nI ho).mpr c) hno) (fun c => ?_)
      refine lv_iconst (v := nI 2) hx hb dX2_setShare_42 (by decide) ?_
      refine lv_goto (tgt := 47) hx hb dX2_setShare_43 (by decide) ?_
      have hFc := va_free (wc := MW b cI cZ cD mth msh mst msd mbi mpr mba mtn mcl mat mto mak mus mud mfs mfb mbo mso mpc mne) hD hS hA [0, 1, 2, 3, 4, 5, 6, 7, 8, 9, 10, 11, 12, 13, 14, 15] rfl
      refine va_calli (va_runV (As := [.int (nI 2)]) (rest := []) ⟨hx, hb, hml, hown, hts⟩ (mX2_holds l D cI cZ cD b _ mth msh mst msd mbi mpr mba mtn mcl mat mto mak mus mud mfs mfb mbo mso mpc mne (2)) (cwV 1 hts gX2_setShare_X2_holds rfl rfl rfl (by decide +kernel) ⟨Nat.le_of_ble_eq_true rfl, Nat.le_of_ble_eq_true rfl⟩) ⟨xk_blind, va_recv hK hP (ci := 2) (q0 := 0) rfl rfl, xk_pre hP hK hD⟩ rfl rfl hl.1 rfl (lv_room (Nat.le_of_ble_eq_true rfl)) dX2_setShare_47 ⟨Nat.le_of_ble_eq_true rfl, Nat.le_of_ble_eq_true rfl⟩) hS (fun q _ h => hFc q h) hFc (fun r u t H locs ht hvm hw hB hz1 hk1 hS => ?_)
      obtain ⟨hP, -, hD1⟩ := hB
      rw [ht] at hP
      have hD := hD1.weaken (B := A) (fun _ _ _ h => hFc _ h)
      have hP : va_P D vwCl (MW b cI cZ cD 2 msh mst msd mbi mpr mba mtn mcl mat mto mak mus mud mfs mfb mbo mso mpc mne) H := hP
      have hD : va_D A (MW b cI cZ cD 2 msh mst msd mbi mpr mba mtn mcl mat mto mak mus mud mfs mfb mbo mso mpc mne) := hD
      obtain rfl : r = 0 := hw.trans (bI_f (by decide))
      refine lv_if_ne (tgt := 55) hx hb dX2_setShare_50 (by decide) (fun c => absurd c (by decide)) (fun c => ?_)
      refine lv_iconst (v := nI 0) hx hb dX2_setShare_53 (by decide) ?_
      exact W.iret hx hb hr (fun t ht hW => ⟨⟨_, 2, rfl, ⟨rfl, Or.inr ⟨rfl, h1, h2, hno⟩⟩, by rw [ht]; exact hP, va_K.moved hW.alike hK, hD⟩, hS.F ht⟩) hS.2.2 dX2_setShare_54
    · skip
      refine vp_callSi (va_Run.run (va_runS (As := [.int share, .int (nI 0), .int (nI 4)]) (rest := []) ⟨hx, hb, hml, hown, hts⟩ (mX2_in l share (nI 0) (nI 4)) (va_cwS 3 hts gX2_setShare_X2_in rfl rfl rfl (by decide +kernel) ⟨Nat.le_of_ble_eq_true rfl, Nat.le_of_ble_eq_true rfl⟩) ⟨fun a U g mk q => q, fun U hU hW => ⟨rfl, trivial⟩⟩ rfl rfl hl.1 rfl (lv_room (Nat.le_of_ble_eq_true rfl)) dX2_setShare_10 ⟨Nat.le_of_ble_eq_true rfl, Nat.le_of_ble_eq_true rfl⟩)) (fun r hr1 => ?_)
      obtain rfl : r = 0 := hr1.trans (bI_f (h2))
      refine lv_if_eq (tgt := 20) hx hb dX2_setShare_13 (by decide) (fun c => ?_) (fun c => absurd c (by decide))
      refine lv_iconst (v := nI 0) hx hb dX2_setShare_20 (by decide) ?_
      refine lv_istore_n (lv' := [(3, .int (nI 0)), (0, .ref (b 0)), (1, .int x), (2, .int share)]) hx hb dX2_setShare_21 rfl hl (by decide) rfl (fun ls hl => ?_)
      refine lv_aload_n hx hb dX2_setShare_22 rfl (lv_at hl 1 rfl) ?_
      refine lv_iload_n hx hb dX2_setShare_23 rfl (lv_at hl 0 rfl) ?_
      refine lv_if_ne (tgt := 31) hx hb dX2_setShare_24 (by decide) (fun c => absurd c (by decide)) (fun c => ?_)
      refine lv_iconst (v := nI 1) hx hb dX2_setShare_27 (by decide) ?_
      refine lv_goto (tgt := 47) hx hb dX2_setShare_28 (by decide) ?_
      have hFc := va_free (wc := MW b cI cZ cD mth msh mst msd mbi mpr mba mtn mcl mat mto mak mus mud mfs mfb mbo mso mpc mne) hD hS hA [0, 1, 2, 3, 4, 5, 6, 7, 8, 9, 10, 11, 12, 13, 14, 15] rfl
      refine va_calli (va_runV (As := [.int (nI 1)]) (rest := []) ⟨hx, hb, hml, hown, hts⟩ (mX2_holds l D cI cZ cD b _ mth msh mst msd mbi mpr mba mtn mcl mat mto mak mus mud mfs mfb mbo mso mpc mne (1)) (cwV 1 hts gX2_setShare_X2_holds rfl rfl rfl (by decide +kernel) ⟨Nat.le_of_ble_eq_true rfl, Nat.le_of_ble_eq_true rfl⟩) ⟨xk_blind, va_recv hK hP (ci := 2) (q0 := 0) rfl rfl, xk_pre hP hK hD⟩ rfl rfl hl.1 rfl (lv_room (Nat.le_of_ble_eq_true rfl)) dX2_setShare_47 ⟨Nat.le_of_ble_eq_true rfl, Nat.le_of_ble_eq_true rfl⟩) hS (fun q _ h => hFc q h) hFc (fun r u t H locs ht hvm hw hB hz1 hk1 hS => ?_)
      obtain ⟨hP, -, hD1⟩ := hB
      rw [ht] at hP
      have hD := hD1.weaken (B := A) (fun _ _ _ h => hFc _ h)
      have hP : va_P D vwCl (MW b cI cZ cD 1 msh mst msd mbi mpr mba mtn mcl mat mto mak mus mud mfs mfb mbo mso mpc mne) H := hP
      have hD : va_D A (MW b cI cZ cD 1 msh mst msd mbi mpr mba mtn mcl mat mto mak mus mud mfs mfb mbo mso mpc mne) := hD
      obtain rfl : r = 0 := hw.trans (bI_f (by decide))
      refine lv_if_ne (tgt := 55) hx hb dX2_setShare_50 (by decide) (fun c => absurd c (by decide)) (fun c => ?_)
      refine lv_iconst (v := nI 0) hx hb dX2_setShare_53 (by decide) ?_
      exact W.iret hx hb hr (fun t ht hW => ⟨⟨_, 1, rfl, ⟨rfl, Or.inl ⟨rfl, fun z => h2 z.2⟩⟩, by rw [ht]; exact hP, va_K.moved hW.alike hK, hD⟩, hS.F ht⟩) hS.2.2 dX2_setShare_54
  · skip
    refine vp_callSi (va_Run.run (va_runS (As := [.int x]) (rest := []) ⟨hx, hb, hml, hown, hts⟩ (mX2_isOwner l x) (va_cwS 1 hts gX2_setShare_X2_isOwner rfl rfl rfl (by decide +kernel) ⟨Nat.le_of_ble_eq_true rfl, Nat.le_of_ble_eq_true rfl⟩) ⟨fun a U g mk q => q, fun U hU hW => ⟨rfl, trivial⟩⟩ rfl rfl hl.1 rfl (lv_room (Nat.le_of_ble_eq_true rfl)) dX2_setShare_1 ⟨Nat.le_of_ble_eq_true rfl, Nat.le_of_ble_eq_true rfl⟩)) (fun r hr1 => ?_)
    obtain rfl : r = 0 := hr1.trans (bI_f (h1))
    refine lv_if_eq (tgt := 20) hx hb dX2_setShare_4 (by decide) (fun c => ?_) (fun c => absurd c (by decide))
    refine lv_iconst (v := nI 0) hx hb dX2_setShare_20 (by decide) ?_
    refine lv_istore_n (lv' := [(3, .int (nI 0)), (0, .ref (b 0)), (1, .int x), (2, .int share)]) hx hb dX2_setShare_21 rfl hl (by decide) rfl (fun ls hl => ?_)
    refine lv_aload_n hx hb dX2_setShare_22 rfl (lv_at hl 1 rfl) ?_
    refine lv_iload_n hx hb dX2_setShare_23 rfl (lv_at hl 0 rfl) ?_
    refine lv_if_ne (tgt := 31) hx hb dX2_setShare_24 (by decide) (fun c => absurd c (by decide)) (fun c => ?_)
    refine lv_iconst (v := nI 1) hx hb dX2_setShare_27 (by decide) ?_
    refine lv_goto (tgt := 47) hx hb dX2_setShare_28 (by decide) ?_
    have hFc := va_free (wc := MW b cI cZ cD mth msh mst msd mbi mpr mba mtn mcl mat mto mak mus mud mfs mfb mbo mso mpc mne) hD hS hA [0, 1, 2, 3, 4, 5, 6, 7, 8, 9, 10, 11, 12, 13, 14, 15] rfl
    refine va_calli (va_runV (As := [.int (nI 1)]) (rest := []) ⟨hx, hb, hml, hown, hts⟩ (mX2_holds l D cI cZ cD b _ mth msh mst msd mbi mpr mba mtn mcl mat mto mak mus mud mfs mfb mbo mso mpc mne (1)) (cwV 1 hts gX2_setShare_X2_holds rfl rfl rfl (by decide +kernel) ⟨Nat.le_of_ble_eq_true rfl, Nat.le_of_ble_eq_true rfl⟩) ⟨xk_blind, va_recv hK hP (ci := 2) (q0 := 0) rfl rfl, xk_pre hP hK hD⟩ rfl rfl hl.1 rfl (lv_room (Nat.le_of_ble_eq_true rfl)) dX2_setShare_47 ⟨Nat.le_of_ble_eq_true rfl, Nat.le_of_ble_eq_true rfl⟩) hS (fun q _ h => hFc q h) hFc (fun r u t H locs ht hvm hw hB hz1 hk1 hS => ?_)
    obtain ⟨hP, -, hD1⟩ := hB
    rw [ht] at hP
    have hD := hD1.weaken (B := A) (fun _ _ _ h => hFc _ h)
    have hP : va_P D vwCl (MW b cI cZ cD 1 msh mst msd mbi mpr mba mtn mcl mat mto mak mus mud mfs mfb mbo mso mpc mne) H := hP
    have hD : va_D A (MW b cI cZ cD 1 msh mst msd mbi mpr mba mtn mcl mat mto mak mus mud mfs mfb mbo mso mpc mne) := hD
    obtain rfl : r = 0 := hw.trans (bI_f (by decide))
    refine lv_if_ne (tgt := 55) hx hb dX2_setShare_50 (by decide) (fun c => absurd c (by decide)) (fun c => ?_)
    refine lv_iconst (v := nI 0) hx hb dX2_setShare_53 (by decide) ?_
    exact W.iret hx hb hr (fun t ht hW => ⟨⟨_, 1, rfl, ⟨rfl, Or.inl ⟨rfl, fun z => h1 z.1⟩⟩, by rw [ht]; exact hP, va_K.moved hW.alike hK, hD⟩, hS.F ht⟩) hS.2.2 dX2_setShare_54
set_option maxHeartbeats 4000000 in
set_option maxRecDepth 100000 in
theorem mX2_setSwitchV (l : Launch) (D : va_G) (cI cZ cD : ClassId) (b : Nat → Nat) (sz : Nat) (mth : Int32) (msh mst msd : Nat → Int32) (mbi : Nat → UInt64) (mpr mba : UInt64) (mtn mcl : Int32) (mat mto mak : Nat → Int32) (mus mud mfs mfb mbo mso mpc mne : Nat → UInt64) (o : Nat) (can : Int32) (ho : o < 5) : Met l yX2_setSwitch wsX2_setSwitch ({ frames := 2, cells := 0, slots := 0, locals := 42 } : Room) (va_Pc [.ref (b 0), .int (nI o), .int can] (XP D cI cZ cD (MW b cI cZ cD mth msh mst msd mbi mpr mba mtn mcl mat mto mak mus mud mfs mfb mbo mso mpc mne) sz)) (va_Qi (fun (r : Int32) (u : Unit) => r = bI (mst o = 0)) (fun (u : Unit) t => XB D cI cZ cD (MW b cI cZ cD 0 msh (upd mst o (bI (can = 0))) msd mbi mpr mba mtn mcl mat mto mak mus mud mfs mfb mbo mso mpc mne) (va_A (MW b cI cZ cD mth msh mst msd mbi mpr mba mtn mcl mat mto mak mus mud mfs mfb mbo mso mpc mne) sz) t) (va_A (MW b cI cZ cD mth msh mst msd mbi mpr mba mtn mcl mat mto mak mus mud mfs mfb mbo mso mpc mne) sz)) 0 0 (va_A (MW b cI cZ cD mth msh mst msd mbi mpr mba mtn mcl mat mto mak mus mud mfs mfb mbo mso mpc mne) sz) := by
  refine Met.ofW (cc := cX2_setSwitch) (maxL := 4) (ret := (some .boolean)) (by decide +kernel) rfl ?_
  intro p e s m args below meth c s₁ B hml hv
  obtain ⟨rfl, hsz, hP, hK, hD0⟩ := hv
  have hx := B.exec
  have hb := B.bytes
  have hr := B.returns
  have hts := atoms_spec (ws := wsX2_setSwitch) B.pre
  have hown : s.vm.findClass RX2 = some m.cls := findClass_of_methodNamed B.named
  have hlocks := B.notSynchronized
  subst hsz
  have hD := hD0.self (sz := s.heap.size)
  generalize hAe : va_A (MW b cI cZ cD mth msh mst msd mbi mpr mba mtn mcl mat mto mak mus mud mfs mfb mbo mso mpc mne) s.heap.size = A at hD ⊢
  have hA : ∀ q : Nat, s.heap.size ≤ q → A q := fun q h => by rw [← hAe]; exact Or.inr h
  have hS : va_S A s.heap s.heap [] := va_S.rf
  have hl := lv_entry ([.ref (b 0), .int (nI o), .int can]) (n := 4) (Nat.le_of_ble_eq_true rfl)
  rw [lg_entry_eq]
  generalize (lg_sl ([.ref (b 0), .int (nI o), .int can]) ++ List.replicate (4 - (lg_sl ([.ref (b 0), .int (nI o), .int can])).length) Slot.unset).toArray = ls at hl ⊢
  have hl : lv_has ls 4 [(0, .ref (b 0)), (1, .int (nI o)), (2, .int can)] := hl
  have inX2 : ∀ w ∈ wsX20, w ∈ wsX2_setSwitch := by decide +kernel
  refine lv_aload_n hx hb dX2_setSwitch_0 rfl (lv_at hl 0 rfl) ?_
  refine lv_iload_n hx hb dX2_setSwitch_1 rfl (lv_at hl 1 rfl) ?_
  refine vp_callSi (va_Run.run (va_runS (As := [.int (nI o)]) (rest := [.ref (b 0)]) ⟨hx, hb, hml, hown, hts⟩ (mX2_isOwner l (nI o)) (va_cwS 1 hts gX2_setSwitch_X2_isOwner rfl rfl rfl (by decide +kernel) ⟨Nat.le_of_ble_eq_true rfl, Nat.le_of_ble_eq_true rfl⟩) ⟨fun a U g mk q => q, fun U hU hW => ⟨rfl, trivial⟩⟩ rfl rfl hl.1 rfl (lv_room (Nat.le_of_ble_eq_true rfl)) dX2_setSwitch_2 ⟨Nat.le_of_ble_eq_true rfl, Nat.le_of_ble_eq_true rfl⟩)) (fun r hr1 => ?_)
  obtain rfl : r = 1 := hr1.trans (bI_t (nI_inR (n := 4) (by omega) (by decide)))
  refine lv_if_eq (tgt := 12) hx hb dX2_setSwitch_5 (by decide) (fun c => absurd c (by decide)) (fun c => ?_)
  refine lv_iconst (v := nI 0) hx hb dX2_setSwitch_8 (by decide) ?_
  refine lv_goto (tgt := 13) hx hb dX2_setSwitch_9 (by decide) ?_
  have hFc := va_free (wc := MW b cI cZ cD mth msh mst msd mbi mpr mba mtn mcl mat mto mak mus mud mfs mfb mbo mso mpc mne) hD hS hA [0, 1, 2, 3, 4, 5, 6, 7, 8, 9, 10, 11, 12, 13, 14, 15] rfl
  refine va_calli (va_runV (As := [.int (nI 0)]) (rest := []) ⟨hx, hb, hml, hown, hts⟩ (mX2_holds l D cI cZ cD b _ mth msh mst msd mbi mpr mba mtn mcl mat mto mak mus mud mfs mfb mbo mso mpc mne (0)) (cwV 1 hts gX2_setSwitch_X2_holds rfl rfl rfl (by decide +kernel) ⟨Nat.le_of_ble_eq_true rfl, Nat.le_of_ble_eq_true rfl⟩) ⟨xk_blind, va_recv hK hP (ci := 2) (q0 := 0) rfl rfl, xk_pre hP hK hD⟩ rfl rfl hl.1 rfl (lv_room (Nat.le_of_ble_eq_true rfl)) dX2_setSwitch_13 ⟨Nat.le_of_ble_eq_true rfl, Nat.le_of_ble_eq_true rfl⟩) hS (fun q _ h => hFc q h) hFc (fun r u t H locs ht hvm hw hB hz1 hk1 hS => ?_)
  obtain ⟨hP, -, hD1⟩ := hB
  rw [ht] at hP
  have hD := hD1.weaken (B := A) (fun _ _ _ h => hFc _ h)
  have hP : va_P D vwCl (MW b cI cZ cD 0 msh mst msd mbi mpr mba mtn mcl mat mto mak mus mud mfs mfb mbo mso mpc mne) H := hP
  have hD : va_D A (MW b cI cZ cD 0 msh mst msd mbi mpr mba mtn mcl mat mto mak mus mud mfs mfb mbo mso mpc mne) := hD
  obtain rfl : r = 1 := hw.trans (bI_t (by decide))
  refine lv_if_ne (tgt := 21) hx hb dX2_setSwitch_16 (by decide) (fun c => ?_) (fun c => absurd c (by decide))
  refine lv_aload_n hx hb dX2_setSwitch_21 rfl (lv_at hl 0 rfl) ?_
  refine va_get (D := D) (ci := 2) (v := .ref (b 2)) (C := RX2) (T := TX2) (N := 20) hx hb hts inX2 hown hK hP 0 rfl rfl 2 (by decide) (hts (.fieldLink RX2 13 "GridCommonsModel" "areStuck" "[Z") (by decide +kernel)) (fun _ h9 => h9) rfl dX2_setSwitch_22 ?_
  refine lv_iload_n hx hb dX2_setSwitch_25 rfl (lv_at hl 1 rfl) ?_
  refine xk_zald hx hb hK hP 2 1 rfl rfl (o := o) (by omega) (by decide) dX2_setSwitch_26 ?_
  refine lv_if_ne (tgt := 34) hx hb dX2_setSwitch_27 (by decide) (fun c1 => ?_) (fun c1 => ?_)
  · skip
    have e8 : (nI 0 : Int32) = bI (mst o = 0) := (bI_f c1).symm
    refine lv_iconst (v := nI 0) hx hb dX2_setSwitch_34 (by decide) ?_
    refine lv_istore_n (lv' := [(3, .int (nI 0)), (0, .ref (b 0)), (1, .int (nI o)), (2, .int can)]) hx hb dX2_setSwitch_35 rfl hl (by decide) rfl (fun ls hl => ?_)
    have hl : lv_has ls 4 [(3, .int (bI (mst o = 0))), (0, .ref (b 0)), (1, .int (nI o)), (2, .int can)] := (by rw [← e8]; exact hl)
    refine lv_aload_n hx hb dX2_setSwitch_36 rfl (lv_at hl 1 rfl) ?_
    refine va_get (D := D) (ci := 2) (v := .ref (b 2)) (C := RX2) (T := TX2) (N := 20) hx hb hts inX2 hown hK hP 0 rfl rfl 2 (by decide) (hts (.fieldLink RX2 13 "GridCommonsModel" "areStuck" "[Z") (by decide +kernel)) (fun _ h9 => h9) rfl dX2_setSwitch_37 ?_
    refine lv_iload_n hx hb dX2_setSwitch_40 rfl (lv_at hl 2 rfl) ?_
    refine lv_iload_n hx hb dX2_setSwitch_41 rfl (lv_at hl 3 rfl) ?_
    refine lv_if_ne (tgt := 49) hx hb dX2_setSwitch_42 (by decide) (fun c2 => ?_) (fun c2 => ?_)
    · skip
      refine lv_iconst (v := nI 0) hx hb dX2_setSwitch_49 (by decide) ?_
      refine xk_i (y := bI (can = 0)) ((bI_f c2).symm) ?_
      refine xk_zast (x' := bI (can = 0)) hx hb hK hP hD hS 2 1 rfl rfl (o := o) (by omega) (by decide) (bI_vn _) dX2_setSwitch_50 (fun H locs hP hD hS => ?_)
      have hP : va_P D vwCl (MW b cI cZ cD 0 msh (upd mst o (bI (can = 0))) msd mbi mpr mba mtn mcl mat mto mak mus mud mfs mfb mbo mso mpc mne) H := hP
      have hD : va_D A (MW b cI cZ cD 0 msh (upd mst o (bI (can = 0))) msd mbi mpr mba mtn mcl mat mto mak mus mud mfs mfb mbo mso mpc mne) := hD
      refine lv_iload_n hx hb dX2_setSwitch_51 rfl (lv_at hl 0 rfl) ?_
      exact W.zret hx hb hr (bI_nar _) (fun t ht hW => ⟨⟨_, (), rfl, rfl, by rw [ht]; exact hP, va_K.moved hW.alike hK, hD⟩, hS.F ht⟩) hS.2.2 dX2_setSwitch_52
    · skip
      refine lv_iconst (v := nI 1) hx hb dX2_setSwitch_45 (by decide) ?_
      refine lv_goto (tgt := 50) hx hb dX2_setSwitch_46 (by decide) ?_
      refine xk_i (y := bI (can = 0)) ((bI_t c2).symm) ?_
      refine xk_zast (x' := bI (can = 0)) hx hb hK hP hD hS 2 1 rfl rfl (o := o) (by omega) (by decide) (bI_vn _) dX2_setSwitch_50 (fun H locs hP hD hS => ?_)
      have hP : va_P D vwCl (MW b cI cZ cD 0 msh (upd mst o (bI (can = 0))) msd mbi mpr mba mtn mcl mat mto mak mus mud mfs mfb mbo mso mpc mne) H := hP
      have hD : va_D A (MW b cI cZ cD 0 msh (upd mst o (bI (can = 0))) msd mbi mpr mba mtn mcl mat mto mak mus mud mfs mfb mbo mso mpc mne) := hD
      refine lv_iload_n hx hb dX2_setSwitch_51 rfl (lv_at hl 0 rfl) ?_
      exact W.zret hx hb hr (bI_nar _) (fun t ht hW => ⟨⟨_, (), rfl, rfl, by rw [ht]; exact hP, va_K.moved hW.alike hK, hD⟩, hS.F ht⟩) hS.2.2 dX2_setSwitch_52
  · skip
    have e8 : (nI 1 : Int32) = bI (mst o = 0) := (bI_t c1).symm
    refine lv_iconst (v := nI 1) hx hb dX2_setSwitch_30 (by decide) ?_
    refine lv_goto (tgt := 35) hx hb dX2_setSwitch_31 (by decide) ?_
    refine lv_istore_n (lv' := [(3, .int (nI 1)), (0, .ref (b 0)), (1, .int (nI o)), (2, .int can)]) hx hb dX2_setSwitch_35 rfl hl (by decide) rfl (fun ls hl => ?_)
    have hl : lv_has ls 4 [(3, .int (bI (mst o = 0))), (0, .ref (b 0)), (1, .int (nI o)), (2, .int can)] := (by rw [← e8]; exact hl)
    refine lv_aload_n hx hb dX2_setSwitch_36 rfl (lv_at hl 1 rfl) ?_
    refine va_get (D := D) (ci := 2) (v := .ref (b 2)) (C := RX2) (T := TX2) (N := 20) hx hb hts inX2 hown hK hP 0 rfl rfl 2 (by decide) (hts (.fieldLink RX2 13 "GridCommonsModel" "areStuck" "[Z") (by decide +kernel)) (fun _ h9 => h9) rfl dX2_setSwitch_37 ?_
    refine lv_iload_n hx hb dX2_setSwitch_40 rfl (lv_at hl 2 rfl) ?_
    refine lv_iload_n hx hb dX2_setSwitch_41 rfl (lv_at hl 3 rfl) ?_
    refine lv_if_ne (tgt := 49) hx hb dX2_setSwitch_42 (by decide) (fun c2 => ?_) (fun c2 => ?_)
    · skip
      refine lv_iconst (v := nI 0) hx hb dX2_setSwitch_49 (by decide) ?_
      refine xk_i (y := bI (can = 0)) ((bI_f c2).symm) ?_
      refine xk_zast (x' := bI (can = 0)) hx hb hK hP hD hS 2 1 rfl rfl (o := o) (by omega) (by decide) (bI_vn _) dX2_setSwitch_50 (fun H locs hP hD hS => ?_)
      have hP : va_P D vwCl (MW b cI cZ cD 0 msh (upd mst o (bI (can = 0))) msd mbi mpr mba mtn mcl mat mto mak mus mud mfs mfb mbo mso mpc mne) H := hP
      have hD : va_D A (MW b cI cZ cD 0 msh (upd mst o (bI (can = 0))) msd mbi mpr mba mtn mcl mat mto mak mus mud mfs mfb mbo mso mpc mne) := hD
      refine lv_iload_n hx hb dX2_setSwitch_51 rfl (lv_at hl 0 rfl) ?_
      exact W.zret hx hb hr (bI_nar _) (fun t ht hW => ⟨⟨_, (), rfl, rfl, by rw [ht]; exact hP, va_K.moved hW.alike hK, hD⟩, hS.F ht⟩) hS.2.2 dX2_setSwitch_52
    · skip
      refine lv_iconst (v := nI 1) hx hb dX2_setSwitch_45 (by decide) ?_
      refine lv_goto (tgt := 50) hx hb dX2_setSwitch_46 (by decide) ?_
      refine xk_i (y := bI (can = 0)) ((bI_t c2).symm) ?_
      refine xk_zast (x' := bI (can = 0)) hx hb hK hP hD hS 2 1 rfl rfl (o := o) (by omega) (by decide) (bI_vn _) dX2_setSwitch_50 (fun H locs hP hD hS => ?_)
      have hP : va_P D vwCl (MW b cI cZ cD 0 msh (upd mst o (bI (can = 0))) msd mbi mpr mba mtn mcl mat mto mak mus mud mfs mfb mbo mso mpc mne) H := hP
      have hD : va_D A (MW b cI cZ cD 0 msh (upd mst o (bI (can = 0))) msd mbi mpr mba mtn mcl mat mto mak mus mud mfs mfb mbo mso mpc mne) := hD
      refine lv_iload_n hx hb dX2_setSwitch_51 rfl (lv_at hl 0 rfl) ?_
      exact W.zret hx hb hr (bI_nar _) (fun t ht hW => ⟨⟨_, (), rfl, rfl, by rw [ht]; exact hP, va_K.moved hW.alike hK, hD⟩, hS.F ht⟩) hS.2.2 dX2_setSwitch_52
set_option maxHeartbeats 4000000 in
set_option maxRecDepth 100000 in
theorem mX2_setSwitchX (l : Launch) (D : va_G) (cI cZ cD : ClassId) (b : Nat → Nat) (sz : Nat) (mth : Int32) (msh mst msd : Nat → Int32) (mbi : Nat → UInt64) (mpr mba : UInt64) (mtn mcl : Int32) (mat mto mak : Nat → Int32) (mus mud mfs mfb mbo mso mpc mne : Nat → UInt64) (x can : Int32) (hbad : ¬ inR x 0 4) : Met l yX2_setSwitch wsX2_setSwitch ({ frames := 2, cells := 0, slots := 0, locals := 42 } : Room) (va_Pc [.ref (b 0), .int x, .int can] (XP D cI cZ cD (MW b cI cZ cD mth msh mst msd mbi mpr mba mtn mcl mat mto mak mus mud mfs mfb mbo mso mpc mne) sz)) (va_Qi (fun (r : Int32) (u : Unit) => r = 0) (fun (u : Unit) t => XB D cI cZ cD (MW b cI cZ cD 1 msh mst msd mbi mpr mba mtn mcl mat mto mak mus mud mfs mfb mbo mso mpc mne) (va_A (MW b cI cZ cD mth msh mst msd mbi mpr mba mtn mcl mat mto mak mus mud mfs mfb mbo mso mpc mne) sz) t) (va_A (MW b cI cZ cD mth msh mst msd mbi mpr mba mtn mcl mat mto mak mus mud mfs mfb mbo mso mpc mne) sz)) 0 0 (va_A (MW b cI cZ cD mth msh mst msd mbi mpr mba mtn mcl mat mto mak mus mud mfs mfb mbo mso mpc mne) sz) := by
  refine Met.ofW (cc := cX2_setSwitch) (maxL := 4) (ret := (some .boolean)) (by decide +kernel) rfl ?_
  intro p e s m args below meth c s₁ B hml hv
  obtain ⟨rfl, hsz, hP, hK, hD0⟩ := hv
  have hx := B.exec
  have hb := B.bytes
  have hr := B.returns
  have hts := atoms_spec (ws := wsX2_setSwitch) B.pre
  have hown : s.vm.findClass RX2 = some m.cls := findClass_of_methodNamed B.named
  have hlocks := B.notSynchronized
  subst hsz
  have hD := hD0.self (sz := s.heap.size)
  generalize hAe : va_A (MW b cI cZ cD mth msh mst msd mbi mpr mba mtn mcl mat mto mak mus mud mfs mfb mbo mso mpc mne) s.heap.size = A at hD ⊢
  have hA : ∀ q : Nat, s.heap.size ≤ q → A q := fun q h => by rw [← hAe]; exact Or.inr h
  have hS : va_S A s.heap s.heap [] := va_S.rf
  have hl := lv_entry ([.ref (b 0), .int x, .int can]) (n := 4) (Nat.le_of_ble_eq_true rfl)
  rw [lg_entry_eq]
  generalize (lg_sl ([.ref (b 0), .int x, .int can]) ++ List.replicate (4 - (lg_sl ([.ref (b 0), .int x, .int can])).length) Slot.unset).toArray = ls at hl ⊢
  have hl : lv_has ls 4 [(0, .ref (b 0)), (1, .int x), (2, .int can)] := hl
  have inX2 : ∀ w ∈ wsX20, w ∈ wsX2_setSwitch := by decide +kernel
  refine lv_aload_n hx hb dX2_setSwitch_0 rfl (lv_at hl 0 rfl) ?_
  refine lv_iload_n hx hb dX2_setSwitch_1 rfl (lv_at hl 1 rfl) ?_
  refine vp_callSi (va_Run.run (va_runS (As := [.int x]) (rest := [.ref (b 0)]) ⟨hx, hb, hml, hown, hts⟩ (mX2_isOwner l x) (va_cwS 1 hts gX2_setSwitch_X2_isOwner rfl rfl rfl (by decide +kernel) ⟨Nat.le_of_ble_eq_true rfl, Nat.le_of_ble_eq_true rfl⟩) ⟨fun a U g mk q => q, fun U hU hW => ⟨rfl, trivial⟩⟩ rfl rfl hl.1 rfl (lv_room (Nat.le_of_ble_eq_true rfl)) dX2_setSwitch_2 ⟨Nat.le_of_ble_eq_true rfl, Nat.le_of_ble_eq_true rfl⟩)) (fun r hr1 => ?_)
  obtain rfl : r = 0 := hr1.trans (bI_f (hbad))
  refine lv_if_eq (tgt := 12) hx hb dX2_setSwitch_5 (by decide) (fun c => ?_) (fun c => absurd c (by decide))
  refine lv_iconst (v := nI 1) hx hb dX2_setSwitch_12 (by decide) ?_
  have hFc := va_free (wc := MW b cI cZ cD mth msh mst msd mbi mpr mba mtn mcl mat mto mak mus mud mfs mfb mbo mso mpc mne) hD hS hA [0, 1, 2, 3, 4, 5, 6, 7, 8, 9, 10, 11, 12, 13, 14, 15] rfl
  refine va_calli (va_runV (As := [.int (nI 1)]) (rest := []) ⟨hx, hb, hml, hown, hts⟩ (mX2_holds l D cI cZ cD b _ mth msh mst msd mbi mpr mba mtn mcl mat mto mak mus mud mfs mfb mbo mso mpc mne (1)) (cwV 1 hts gX2_setSwitch_X2_holds rfl rfl rfl (by decide +kernel) ⟨Nat.le_of_ble_eq_true rfl, Nat.le_of_ble_eq_true rfl⟩) ⟨xk_blind, va_recv hK hP (ci := 2) (q0 := 0) rfl rfl, xk_pre hP hK hD⟩ rfl rfl hl.1 rfl (lv_room (Nat.le_of_ble_eq_true rfl)) dX2_setSwitch_13 ⟨Nat.le_of_ble_eq_true rfl, Nat.le_of_ble_eq_true rfl⟩) hS (fun q _ h => hFc q h) hFc (fun r u t H locs ht hvm hw hB hz1 hk1 hS => ?_)
  obtain ⟨hP, -, hD1⟩ := hB
  rw [ht] at hP
  have hD := hD1.weaken (B := A) (fun _ _ _ h => hFc _ h)
  have hP : va_P D vwCl (MW b cI cZ cD 1 msh mst msd mbi mpr mba mtn mcl mat mto mak mus mud mfs mfb mbo mso mpc mne) H := hP
  have hD : va_D A (MW b cI cZ cD 1 msh mst msd mbi mpr mba mtn mcl mat mto mak mus mud mfs mfb mbo mso mpc mne) := hD
  obtain rfl : r = 0 := hw.trans (bI_f (by decide))
  refine lv_if_ne (tgt := 21) hx hb dX2_setSwitch_16 (by decide) (fun c => absurd c (by decide)) (fun c => ?_)
  refine lv_iconst (v := nI 0) hx hb dX2_setSwitch_19 (by decide) ?_
  exact W.zret hx hb hr rfl (fun t ht hW => ⟨⟨_, (), rfl, rfl, by rw [ht]; exact hP, va_K.moved hW.alike hK, hD⟩, hS.F ht⟩) hS.2.2 dX2_setSwitch_20
set_option maxHeartbeats 4000000 in
set_option maxRecDepth 100000 in
theorem mX2_setPriceV (l : Launch) (D : va_G) (cI cZ cD : ClassId) (b : Nat → Nat) (sz : Nat) (mth : Int32) (msh mst msd : Nat → Int32) (mbi : Nat → UInt64) (mpr mba : UInt64) (mtn mcl : Int32) (mat mto mak : Nat → Int32) (mus mud mfs mfb mbo mso mpc mne : Nat → UInt64) (k : Nat) (hk : 1 ≤ k ∧ k < 5) : Met l yX2_setPrice wsX2_setPrice ({ frames := 1, cells := 0, slots := 0, locals := 22 } : Room) (va_Pc [.ref (b 0), .int (nI k)] (XP D cI cZ cD (MW b cI cZ cD mth msh mst msd mbi mpr mba mtn mcl mat mto mak mus mud mfs mfb mbo mso mpc mne) sz)) (va_Qd (fun (r : UInt64) (u : Unit) => r = FP.ddiv (FP.i2d (nI k)) 4616189618054758400) (fun (u : Unit) t => XB D cI cZ cD (MW b cI cZ cD 0 msh mst msd mbi (FP.ddiv (FP.i2d (nI k)) 4616189618054758400) mba mtn mcl mat mto mak mus mud mfs mfb mbo mso mpc mne) (va_A (MW b cI cZ cD mth msh mst msd mbi mpr mba mtn mcl mat mto mak mus mud mfs mfb mbo mso mpc mne) sz) t) (va_A (MW b cI cZ cD mth msh mst msd mbi mpr mba mtn mcl mat mto mak mus mud mfs mfb mbo mso mpc mne) sz)) 0 0 (va_A (MW b cI cZ cD mth msh mst msd mbi mpr mba mtn mcl mat mto mak mus mud mfs mfb mbo mso mpc mne) sz) := by
  refine Met.ofW (cc := cX2_setPrice) (maxL := 2) (ret := (some .double)) (by decide +kernel) rfl ?_
  intro p e s m args below meth c s₁ B hml hv
  obtain ⟨rfl, hsz, hP, hK, hD0⟩ := hv
  have hx := B.exec
  have hb := B.bytes
  have hr := B.returns
  have hts := atoms_spec (ws := wsX2_setPrice) B.pre
  have hown : s.vm.findClass RX2 = some m.cls := findClass_of_methodNamed B.named
  have hlocks := B.notSynchronized
  subst hsz
  have hD := hD0.self (sz := s.heap.size)
  generalize hAe : va_A (MW b cI cZ cD mth msh mst msd mbi mpr mba mtn mcl mat mto mak mus mud mfs mfb mbo mso mpc mne) s.heap.size = A at hD ⊢
  have hA : ∀ q : Nat, s.heap.size ≤ q → A q := fun q h => by rw [← hAe]; exact Or.inr h
  have hS : va_S A s.heap s.heap [] := va_S.rf
  have hl := lv_entry ([.ref (b 0), .int (nI k)]) (n := 2) (Nat.le_of_ble_eq_true rfl)
  rw [lg_entry_eq]
  generalize (lg_sl ([.ref (b 0), .int (nI k)]) ++ List.replicate (2 - (lg_sl ([.ref (b 0), .int (nI k)])).length) Slot.unset).toArray = ls at hl ⊢
  have hl : lv_has ls 2 [(0, .ref (b 0)), (1, .int (nI k))] := hl
  have inX2 : ∀ w ∈ wsX20, w ∈ wsX2_setPrice := by decide +kernel
  refine lv_aload_n hx hb dX2_setPrice_0 rfl (lv_at hl 0 rfl) ?_
  refine lv_iload_n hx hb dX2_setPrice_1 rfl (lv_at hl 1 rfl) ?_
  refine lv_iconst (v := nI 1) hx hb dX2_setPrice_2 (by decide) ?_
  refine lv_iconst (v := nI 4) hx hb dX2_setPrice_3 (by decide) ?_
  refine vp_callSi (va_Run.run (va_runS (As := [.int (nI k), .int (nI 1), .int (nI 4)]) (rest := [.ref (b 0)]) ⟨hx, hb, hml, hown, hts⟩ (mX2_in l (nI k) (nI 1) (nI 4)) (va_cwS 3 hts gX2_setPrice_X2_in rfl rfl rfl (by decide +kernel) ⟨Nat.le_of_ble_eq_true rfl, Nat.le_of_ble_eq_true rfl⟩) ⟨fun a U g mk q => q, fun U hU hW => ⟨rfl, trivial⟩⟩ rfl rfl hl.1 rfl (lv_room (Nat.le_of_ble_eq_true rfl)) dX2_setPrice_4 ⟨Nat.le_of_ble_eq_true rfl, Nat.le_of_ble_eq_true rfl⟩)) (fun r hr1 => ?_)
  obtain rfl : r = 1 := hr1.trans (bI_t (⟨nI_le hk.1 (by omega), nI_le (by omega) (by decide)⟩))
  refine lv_if_eq (tgt := 14) hx hb dX2_setPrice_7 (by decide) (fun c => absurd c (by decide)) (fun c => ?_)
  refine lv_iconst (v := nI 0) hx hb dX2_setPrice_10 (by decide) ?_
  refine lv_goto (tgt := 15) hx hb dX2_setPrice_11 (by decide) ?_
  have hFc := va_free (wc := MW b cI cZ cD mth msh mst msd mbi mpr mba mtn mcl mat mto mak mus mud mfs mfb mbo mso mpc mne) hD hS hA [0, 1, 2, 3, 4, 5, 6, 7, 8, 9, 10, 11, 12, 13, 14, 15] rfl
  refine va_calli (va_runV (As := [.int (nI 0)]) (rest := []) ⟨hx, hb, hml, hown, hts⟩ (mX2_holds l D cI cZ cD b _ mth msh mst msd mbi mpr mba mtn mcl mat mto mak mus mud mfs mfb mbo mso mpc mne (0)) (cwV 1 hts gX2_setPrice_X2_holds rfl rfl rfl (by decide +kernel) ⟨Nat.le_of_ble_eq_true rfl, Nat.le_of_ble_eq_true rfl⟩) ⟨xk_blind, va_recv hK hP (ci := 2) (q0 := 0) rfl rfl, xk_pre hP hK hD⟩ rfl rfl hl.1 rfl (lv_room (Nat.le_of_ble_eq_true rfl)) dX2_setPrice_15 ⟨Nat.le_of_ble_eq_true rfl, Nat.le_of_ble_eq_true rfl⟩) hS (fun q _ h => hFc q h) hFc (fun r u t H locs ht hvm hw hB hz1 hk1 hS => ?_)
  obtain ⟨hP, -, hD1⟩ := hB
  rw [ht] at hP
  have hD := hD1.weaken (B := A) (fun _ _ _ h => hFc _ h)
  have hP : va_P D vwCl (MW b cI cZ cD 0 msh mst msd mbi mpr mba mtn mcl mat mto mak mus mud mfs mfb mbo mso mpc mne) H := hP
  have hD : va_D A (MW b cI cZ cD 0 msh mst msd mbi mpr mba mtn mcl mat mto mak mus mud mfs mfb mbo mso mpc mne) := hD
  obtain rfl : r = 1 := hw.trans (bI_t (by decide))
  refine lv_if_ne (tgt := 23) hx hb dX2_setPrice_18 (by decide) (fun c => ?_) (fun c => absurd c (by decide))
  refine lv_aload_n hx hb dX2_setPrice_23 rfl (lv_at hl 0 rfl) ?_
  refine lv_iload_n hx hb dX2_setPrice_24 rfl (lv_at hl 1 rfl) ?_
  refine lv_i2d hx hb dX2_setPrice_25 ?_
  refine lv_ldc2d hx hb hown (hts (.constantDouble RX2 82 4616189618054758400) (by decide +kernel)) dX2_setPrice_26 ?_
  refine lv_ddiv hx hb dX2_setPrice_29 (pr_ok k hk.2) ?_
  refine va_put (D := D) (ci := 2) (v := .double (FP.ddiv (FP.i2d (nI k)) 4616189618054758400)) (ty := .double) (C := RX2) (T := TX2) (N := 20) hx hb hts inX2 tyX2 tyX2_ok nmX2 hown hK hP hD hS 0 rfl rfl 5 (by decide) (hts (.fieldLink RX2 26 "GridCommonsModel" "price" "D") (by decide +kernel)) (fun _ h9 => h9) rfl (by decide +kernel) rfl rfl (Nat.le_of_ble_eq_true rfl) dX2_setPrice_30 (fun H locs hP hD hS => ?_)
  have hP : va_P D vwCl (MW b cI cZ cD 0 msh mst msd mbi (FP.ddiv (FP.i2d (nI k)) 4616189618054758400) mba mtn mcl mat mto mak mus mud mfs mfb mbo mso mpc mne) H := hP
  have hD : va_D A (MW b cI cZ cD 0 msh mst msd mbi (FP.ddiv (FP.i2d (nI k)) 4616189618054758400) mba mtn mcl mat mto mak mus mud mfs mfb mbo mso mpc mne) := hD
  refine lv_aload_n hx hb dX2_setPrice_33 rfl (lv_at hl 0 rfl) ?_
  refine va_get (D := D) (ci := 2) (v := .double (FP.ddiv (FP.i2d (nI k)) 4616189618054758400)) (C := RX2) (T := TX2) (N := 20) hx hb hts inX2 hown hK hP 0 rfl rfl 5 (by decide) (hts (.fieldLink RX2 26 "GridCommonsModel" "price" "D") (by decide +kernel)) (fun _ h9 => h9) rfl dX2_setPrice_34 ?_
  exact W.dret hx hb hr (fun t ht hW => ⟨⟨_, (), rfl, rfl, by rw [ht]; exact hP, va_K.moved hW.alike hK, hD⟩, hS.F ht⟩) hS.2.2 dX2_setPrice_37
set_option maxHeartbeats 4000000 in
set_option maxRecDepth 100000 in
theorem mX2_setPriceX (l : Launch) (D : va_G) (cI cZ cD : ClassId) (b : Nat → Nat) (sz : Nat) (mth : Int32) (msh mst msd : Nat → Int32) (mbi : Nat → UInt64) (mpr mba : UInt64) (mtn mcl : Int32) (mat mto mak : Nat → Int32) (mus mud mfs mfb mbo mso mpc mne : Nat → UInt64) (x : Int32) (hbad : ¬ inR x 1 4) : Met l yX2_setPrice wsX2_setPrice ({ frames := 1, cells := 0, slots := 0, locals := 22 } : Room) (va_Pc [.ref (b 0), .int x] (XP D cI cZ cD (MW b cI cZ cD mth msh mst msd mbi mpr mba mtn mcl mat mto mak mus mud mfs mfb mbo mso mpc mne) sz)) (va_Qd (fun (r : UInt64) (u : Unit) => True) (fun (u : Unit) t => XB D cI cZ cD (MW b cI cZ cD 1 msh mst msd mbi mpr mba mtn mcl mat mto mak mus mud mfs mfb mbo mso mpc mne) (va_A (MW b cI cZ cD mth msh mst msd mbi mpr mba mtn mcl mat mto mak mus mud mfs mfb mbo mso mpc mne) sz) t) (va_A (MW b cI cZ cD mth msh mst msd mbi mpr mba mtn mcl mat mto mak mus mud mfs mfb mbo mso mpc mne) sz)) 0 0 (va_A (MW b cI cZ cD mth msh mst msd mbi mpr mba mtn mcl mat mto mak mus mud mfs mfb mbo mso mpc mne) sz) := by
  refine Met.ofW (cc := cX2_setPrice) (maxL := 2) (ret := (some .double)) (by decide +kernel) rfl ?_
  intro p e s m args below meth c s₁ B hml hv
  obtain ⟨rfl, hsz, hP, hK, hD0⟩ := hv
  have hx := B.exec
  have hb := B.bytes
  have hr := B.returns
  have hts := atoms_spec (ws := wsX2_setPrice) B.pre
  have hown : s.vm.findClass RX2 = some m.cls := findClass_of_methodNamed B.named
  have hlocks := B.notSynchronized
  subst hsz
  have hD := hD0.self (sz := s.heap.size)
  generalize hAe : va_A (MW b cI cZ cD mth msh mst msd mbi mpr mba mtn mcl mat mto mak mus mud mfs mfb mbo mso mpc mne) s.heap.size = A at hD ⊢
  have hA : ∀ q : Nat, s.heap.size ≤ q → A q := fun q h => by rw [← hAe]; exact Or.inr h
  have hS : va_S A s.heap s.heap [] := va_S.rf
  have hl := lv_entry ([.ref (b 0), .int x]) (n := 2) (Nat.le_of_ble_eq_true rfl)
  rw [lg_entry_eq]
  generalize (lg_sl ([.ref (b 0), .int x]) ++ List.replicate (2 - (lg_sl ([.ref (b 0), .int x])).length) Slot.unset).toArray = ls at hl ⊢
  have hl : lv_has ls 2 [(0, .ref (b 0)), (1, .int x)] := hl
  have inX2 : ∀ w ∈ wsX20, w ∈ wsX2_setPrice := by decide +kernel
  refine lv_aload_n hx hb dX2_setPrice_0 rfl (lv_at hl 0 rfl) ?_
  refine lv_iload_n hx hb dX2_setPrice_1 rfl (lv_at hl 1 rfl) ?_
  refine lv_iconst (v := nI 1) hx hb dX2_setPrice_2 (by decide) ?_
  refine lv_iconst (v := nI 4) hx hb dX2_setPrice_3 (by decide) ?_
  refine vp_callSi (va_Run.run (va_runS (As := [.int x, .int (nI 1), .int (nI 4)]) (rest := [.ref (b 0)]) ⟨hx, hb, hml, hown, hts⟩ (mX2_in l x (nI 1) (nI 4)) (va_cwS 3 hts gX2_setPrice_X2_in rfl rfl rfl (by decide +kernel) ⟨Nat.le_of_ble_eq_true rfl, Nat.le_of_ble_eq_true rfl⟩) ⟨fun a U g mk q => q, fun U hU hW => ⟨rfl, trivial⟩⟩ rfl rfl hl.1 rfl (lv_room (Nat.le_of_ble_eq_true rfl)) dX2_setPrice_4 ⟨Nat.le_of_ble_eq_true rfl, Nat.le_of_ble_eq_true rfl⟩)) (fun r hr1 => ?_)
  obtain rfl : r = 0 := hr1.trans (bI_f (hbad))
  refine lv_if_eq (tgt := 14) hx hb dX2_setPrice_7 (by decide) (fun c => ?_) (fun c => absurd c (by decide))
  refine lv_iconst (v := nI 1) hx hb dX2_setPrice_14 (by decide) ?_
  have hFc := va_free (wc := MW b cI cZ cD mth msh mst msd mbi mpr mba mtn mcl mat mto mak mus mud mfs mfb mbo mso mpc mne) hD hS hA [0, 1, 2, 3, 4, 5, 6, 7, 8, 9, 10, 11, 12, 13, 14, 15] rfl
  refine va_calli (va_runV (As := [.int (nI 1)]) (rest := []) ⟨hx, hb, hml, hown, hts⟩ (mX2_holds l D cI cZ cD b _ mth msh mst msd mbi mpr mba mtn mcl mat mto mak mus mud mfs mfb mbo mso mpc mne (1)) (cwV 1 hts gX2_setPrice_X2_holds rfl rfl rfl (by decide +kernel) ⟨Nat.le_of_ble_eq_true rfl, Nat.le_of_ble_eq_true rfl⟩) ⟨xk_blind, va_recv hK hP (ci := 2) (q0 := 0) rfl rfl, xk_pre hP hK hD⟩ rfl rfl hl.1 rfl (lv_room (Nat.le_of_ble_eq_true rfl)) dX2_setPrice_15 ⟨Nat.le_of_ble_eq_true rfl, Nat.le_of_ble_eq_true rfl⟩) hS (fun q _ h => hFc q h) hFc (fun r u t H locs ht hvm hw hB hz1 hk1 hS => ?_)
  obtain ⟨hP, -, hD1⟩ := hB
  rw [ht] at hP
  have hD := hD1.weaken (B := A) (fun _ _ _ h => hFc _ h)
  have hP : va_P D vwCl (MW b cI cZ cD 1 msh mst msd mbi mpr mba mtn mcl mat mto mak mus mud mfs mfb mbo mso mpc mne) H := hP
  have hD : va_D A (MW b cI cZ cD 1 msh mst msd mbi mpr mba mtn mcl mat mto mak mus mud mfs mfb mbo mso mpc mne) := hD
  obtain rfl : r = 0 := hw.trans (bI_f (by decide))
  refine lv_if_ne (tgt := 23) hx hb dX2_setPrice_18 (by decide) (fun c => absurd c (by decide)) (fun c => ?_)
  refine lv_dconst0 hx hb dX2_setPrice_21 ?_
  exact W.dret hx hb hr (fun t ht hW => ⟨⟨_, (), rfl, trivial, by rw [ht]; exact hP, va_K.moved hW.alike hK, hD⟩, hS.F ht⟩) hS.2.2 dX2_setPrice_22
set_option maxHeartbeats 4000000 in
set_option maxRecDepth 100000 in
theorem mX2_tellV (l : Launch) (D : va_G) (cI cZ cD : ClassId) (b : Nat → Nat) (sz : Nat) (mth : Int32) (msh mst msd : Nat → Int32) (mbi : Nat → UInt64) (mpr mba : UInt64) (mtn mcl : Int32) (mat mto mak : Nat → Int32) (mus mud mfs mfb mbo mso mpc mne : Nat → UInt64) (o : Nat) (use : Int32) (ho : o < 5) (hus : inR use 0 50) (hit : ∀ j, mat j = 0 ∨ mat j = 1) : Met l yX2_tell wsX2_tell ({ frames := 2, cells := 0, slots := 0, locals := 42 } : Room) (va_Pc [.ref (b 0), .int (nI o), .int use] (XP D cI cZ cD (MW b cI cZ cD mth msh mst msd mbi mpr mba mtn mcl mat mto mak mus mud mfs mfb mbo mso mpc mne) sz)) (va_Qi (fun (r : Int32) (u : Unit) => r = mat o) (fun (u : Unit) t => XB D cI cZ cD (MW b cI cZ cD 0 msh mst msd mbi mpr mba mtn mcl (upd mat o 1) (upd mto o use) mak mus mud mfs mfb mbo mso mpc mne) (va_A (MW b cI cZ cD mth msh mst msd mbi mpr mba mtn mcl mat mto mak mus mud mfs mfb mbo mso mpc mne) sz) t) (va_A (MW b cI cZ cD mth msh mst msd mbi mpr mba mtn mcl mat mto mak mus mud mfs mfb mbo mso mpc mne) sz)) 0 0 (va_A (MW b cI cZ cD mth msh mst msd mbi mpr mba mtn mcl mat mto mak mus mud mfs mfb mbo mso mpc mne) sz) := by
  refine Met.ofW (cc := cX2_tell) (maxL := 4) (ret := (some .boolean)) (by decide +kernel) rfl ?_
  intro p e s m args below meth c s₁ B hml hv
  obtain ⟨rfl, hsz, hP, hK, hD0⟩ := hv
  have hx := B.exec
  have hb := B.bytes
  have hr := B.returns
  have hts := atoms_spec (ws := wsX2_tell) B.pre
  have hown : s.vm.findClass RX2 = some m.cls := findClass_of_methodNamed B.named
  have hlocks := B.notSynchronized
  subst hsz
  have hD := hD0.self (sz := s.heap.size)
  generalize hAe : va_A (MW b cI cZ cD mth msh mst msd mbi mpr mba mtn mcl mat mto mak mus mud mfs mfb mbo mso mpc mne) s.heap.size = A at hD ⊢
  have hA : ∀ q : Nat, s.heap.size ≤ q → A q := fun q h => by rw [← hAe]; exact Or.inr h
  have hS : va_S A s.heap s.heap [] := va_S.rf
  have hl := lv_entry ([.ref (b 0), .int (nI o), .int use]) (n := 4) (Nat.le_of_ble_eq_true rfl)
  rw [lg_entry_eq]
  generalize (lg_sl ([.ref (b 0), .int (nI o), .int use]) ++ List.replicate (4 - (lg_sl ([.ref (b 0), .int (nI o), .int use])).length) Slot.unset).toArray = ls at hl ⊢
  have hl : lv_has ls 4 [(0, .ref (b 0)), (1, .int (nI o)), (2, .int use)] := hl
  have inX2 : ∀ w ∈ wsX20, w ∈ wsX2_tell := by decide +kernel
  refine lv_aload_n hx hb dX2_tell_0 rfl (lv_at hl 0 rfl) ?_
  refine lv_iload_n hx hb dX2_tell_1 rfl (lv_at hl 1 rfl) ?_
  refine vp_callSi (va_Run.run (va_runS (As := [.int (nI o)]) (rest := [.ref (b 0)]) ⟨hx, hb, hml, hown, hts⟩ (mX2_isOwner l (nI o)) (va_cwS 1 hts gX2_tell_X2_isOwner rfl rfl rfl (by decide +kernel) ⟨Nat.le_of_ble_eq_true rfl, Nat.le_of_ble_eq_true rfl⟩) ⟨fun a U g mk q => q, fun U hU hW => ⟨rfl, trivial⟩⟩ rfl rfl hl.1 rfl (lv_room (Nat.le_of_ble_eq_true rfl)) dX2_tell_2 ⟨Nat.le_of_ble_eq_true rfl, Nat.le_of_ble_eq_true rfl⟩)) (fun r hr1 => ?_)
  obtain rfl : r = 1 := hr1.trans (bI_t (nI_inR (n := 4) (by omega) (by decide)))
  refine lv_if_eq (tgt := 22) hx hb dX2_tell_5 (by decide) (fun c => absurd c (by decide)) (fun c => ?_)
  refine lv_iload_n hx hb dX2_tell_8 rfl (lv_at hl 2 rfl) ?_
  refine lv_iconst (v := nI 0) hx hb dX2_tell_9 (by decide) ?_
  refine lv_bipush (v := nI 50) hx hb dX2_tell_10 (by decide) ?_
  refine vp_callSi (va_Run.run (va_runS (As := [.int use, .int (nI 0), .int (nI 50)]) (rest := [.ref (b 0)]) ⟨hx, hb, hml, hown, hts⟩ (mX2_in l use (nI 0) (nI 50)) (va_cwS 3 hts gX2_tell_X2_in rfl rfl rfl (by decide +kernel) ⟨Nat.le_of_ble_eq_true rfl, Nat.le_of_ble_eq_true rfl⟩) ⟨fun a U g mk q => q, fun U hU hW => ⟨rfl, trivial⟩⟩ rfl rfl hl.1 rfl (lv_room (Nat.le_of_ble_eq_true rfl)) dX2_tell_12 ⟨Nat.le_of_ble_eq_true rfl, Nat.le_of_ble_eq_true rfl⟩)) (fun r hr1 => ?_)
  obtain rfl : r = 1 := hr1.trans (bI_t (hus))
  refine lv_if_eq (tgt := 22) hx hb dX2_tell_15 (by decide) (fun c => absurd c (by decide)) (fun c => ?_)
  refine lv_iconst (v := nI 0) hx hb dX2_tell_18 (by decide) ?_
  refine lv_goto (tgt := 23) hx hb dX2_tell_19 (by decide) ?_
  have hFc := va_free (wc := MW b cI cZ cD mth msh mst msd mbi mpr mba mtn mcl mat mto mak mus mud mfs mfb mbo mso mpc mne) hD hS hA [0, 1, 2, 3, 4, 5, 6, 7, 8, 9, 10, 11, 12, 13, 14, 15] rfl
  refine va_calli (va_runV (As := [.int (nI 0)]) (rest := []) ⟨hx, hb, hml, hown, hts⟩ (mX2_holds l D cI cZ cD b _ mth msh mst msd mbi mpr mba mtn mcl mat mto mak mus mud mfs mfb mbo mso mpc mne (0)) (cwV 1 hts gX2_tell_X2_holds rfl rfl rfl (by decide +kernel) ⟨Nat.le_of_ble_eq_true rfl, Nat.le_of_ble_eq_true rfl⟩) ⟨xk_blind, va_recv hK hP (ci := 2) (q0 := 0) rfl rfl, xk_pre hP hK hD⟩ rfl rfl hl.1 rfl (lv_room (Nat.le_of_ble_eq_true rfl)) dX2_tell_23 ⟨Nat.le_of_ble_eq_true rfl, Nat.le_of_ble_eq_true rfl⟩) hS (fun q _ h => hFc q h) hFc (fun r u t H locs ht hvm hw hB hz1 hk1 hS => ?_)
  obtain ⟨hP, -, hD1⟩ := hB
  rw [ht] at hP
  have hD := hD1.weaken (B := A) (fun _ _ _ h => hFc _ h)
  have hP : va_P D vwCl (MW b cI cZ cD 0 msh mst msd mbi mpr mba mtn mcl mat mto mak mus mud mfs mfb mbo mso mpc mne) H := hP
  have hD : va_D A (MW b cI cZ cD 0 msh mst msd mbi mpr mba mtn mcl mat mto mak mus mud mfs mfb mbo mso mpc mne) := hD
  obtain rfl : r = 1 := hw.trans (bI_t (by decide))
  refine lv_if_ne (tgt := 31) hx hb dX2_tell_26 (by decide) (fun c => ?_) (fun c => absurd c (by decide))
  refine lv_aload_n hx hb dX2_tell_31 rfl (lv_at hl 0 rfl) ?_
  refine va_get (D := D) (ci := 2) (v := .ref (b 5)) (C := RX2) (T := TX2) (N := 20) hx hb hts inX2 hown hK hP 0 rfl rfl 9 (by decide) (hts (.fieldLink RX2 30 "GridCommonsModel" "areTold" "[Z") (by decide +kernel)) (fun _ h9 => h9) rfl dX2_tell_32 ?_
  refine lv_iload_n hx hb dX2_tell_35 rfl (lv_at hl 1 rfl) ?_
  refine xk_zald hx hb hK hP 5 1 rfl rfl (o := o) (by omega) (by decide) dX2_tell_36 ?_
  refine lv_istore_n (lv' := [(3, .int (mat o)), (0, .ref (b 0)), (1, .int (nI o)), (2, .int use)]) hx hb dX2_tell_37 rfl hl (by decide) rfl (fun ls hl => ?_)
  refine lv_aload_n hx hb dX2_tell_38 rfl (lv_at hl 1 rfl) ?_
  refine va_get (D := D) (ci := 2) (v := .ref (b 5)) (C := RX2) (T := TX2) (N := 20) hx hb hts inX2 hown hK hP 0 rfl rfl 9 (by decide) (hts (.fieldLink RX2 30 "GridCommonsModel" "areTold" "[Z") (by decide +kernel)) (fun _ h9 => h9) rfl dX2_tell_39 ?_
  refine lv_iload_n hx hb dX2_tell_42 rfl (lv_at hl 2 rfl) ?_
  refine lv_iconst (v := nI 1) hx hb dX2_tell_43 (by decide) ?_
  refine xk_zast (x' := 1) hx hb hK hP hD hS 5 1 rfl rfl (o := o) (by omega) (by decide) rfl dX2_tell_44 (fun H locs hP hD hS => ?_)
  have hP : va_P D vwCl (MW b cI cZ cD 0 msh mst msd mbi mpr mba mtn mcl (upd mat o 1) mto mak mus mud mfs mfb mbo mso mpc mne) H := hP
  have hD : va_D A (MW b cI cZ cD 0 msh mst msd mbi mpr mba mtn mcl (upd mat o 1) mto mak mus mud mfs mfb mbo mso mpc mne) := hD
  refine lv_aload_n hx hb dX2_tell_45 rfl (lv_at hl 1 rfl) ?_
  refine va_get (D := D) (ci := 2) (v := .ref (b 6)) (C := RX2) (T := TX2) (N := 20) hx hb hts inX2 hown hK hP 0 rfl rfl 10 (by decide) (hts (.fieldLink RX2 33 "GridCommonsModel" "told" "[I") (by decide +kernel)) (fun _ h9 => h9) rfl dX2_tell_46 ?_
  refine lv_iload_n hx hb dX2_tell_49 rfl (lv_at hl 2 rfl) ?_
  refine lv_iload_n hx hb dX2_tell_50 rfl (lv_at hl 3 rfl) ?_
  refine xk_iast hx hb hK hP hD hS 6 0 rfl rfl (o := o) (by omega) (by decide) dX2_tell_51 (fun H locs hP hD hS => ?_)
  have hP : va_P D vwCl (MW b cI cZ cD 0 msh mst msd mbi mpr mba mtn mcl (upd mat o 1) (upd mto o use) mak mus mud mfs mfb mbo mso mpc mne) H := hP
  have hD : va_D A (MW b cI cZ cD 0 msh mst msd mbi mpr mba mtn mcl (upd mat o 1) (upd mto o use) mak mus mud mfs mfb mbo mso mpc mne) := hD
  refine lv_iload_n hx hb dX2_tell_52 rfl (lv_at hl 0 rfl) ?_
  exact W.zret hx hb hr (nar01n (hit o)) (fun t ht hW => ⟨⟨_, (), rfl, rfl, by rw [ht]; exact hP, va_K.moved hW.alike hK, hD⟩, hS.F ht⟩) hS.2.2 dX2_tell_53
set_option maxHeartbeats 4000000 in
set_option maxRecDepth 100000 in
theorem mX2_tellX (l : Launch) (D : va_G) (cI cZ cD : ClassId) (b : Nat → Nat) (sz : Nat) (mth : Int32) (msh mst msd : Nat → Int32) (mbi : Nat → UInt64) (mpr mba : UInt64) (mtn mcl : Int32) (mat mto mak : Nat → Int32) (mus mud mfs mfb mbo mso mpc mne : Nat → UInt64) (x use : Int32) (hbad : ¬ (inR x 0 4 ∧ inR use 0 50)) : Met l yX2_tell wsX2_tell ({ frames := 2, cells := 0, slots := 0, locals := 42 } : Room) (va_Pc [.ref (b 0), .int x, .int use] (XP D cI cZ cD (MW b cI cZ cD mth msh mst msd mbi mpr mba mtn mcl mat mto mak mus mud mfs mfb mbo mso mpc mne) sz)) (va_Qi (fun (r : Int32) (u : Unit) => r = 0) (fun (u : Unit) t => XB D cI cZ cD (MW b cI cZ cD 1 msh mst msd mbi mpr mba mtn mcl mat mto mak mus mud mfs mfb mbo mso mpc mne) (va_A (MW b cI cZ cD mth msh mst msd mbi mpr mba mtn mcl mat mto mak mus mud mfs mfb mbo mso mpc mne) sz) t) (va_A (MW b cI cZ cD mth msh mst msd mbi mpr mba mtn mcl mat mto mak mus mud mfs mfb mbo mso mpc mne) sz)) 0 0 (va_A (MW b cI cZ cD mth msh mst msd mbi mpr mba mtn mcl mat mto mak mus mud mfs mfb mbo mso mpc mne) sz) := by
  refine Met.ofW (cc := cX2_tell) (maxL := 4) (ret := (some .boolean)) (by decide +kernel) rfl ?_
  intro p e s m args below meth c s₁ B hml hv
  obtain ⟨rfl, hsz, hP, hK, hD0⟩ := hv
  have hx := B.exec
  have hb := B.bytes
  have hr := B.returns
  have hts := atoms_spec (ws := wsX2_tell) B.pre
  have hown : s.vm.findClass RX2 = some m.cls := findClass_of_methodNamed B.named
  have hlocks := B.notSynchronized
  subst hsz
  have hD := hD0.self (sz := s.heap.size)
  generalize hAe : va_A (MW b cI cZ cD mth msh mst msd mbi mpr mba mtn mcl mat mto mak mus mud mfs mfb mbo mso mpc mne) s.heap.size = A at hD ⊢
  have hA : ∀ q : Nat, s.heap.size ≤ q → A q := fun q h => by rw [← hAe]; exact Or.inr h
  have hS : va_S A s.heap s.heap [] := va_S.rf
  have hl := lv_entry ([.ref (b 0), .int x, .int use]) (n := 4) (Nat.le_of_ble_eq_true rfl)
  rw [lg_entry_eq]
  generalize (lg_sl ([.ref (b 0), .int x, .int use]) ++ List.replicate (4 - (lg_sl ([.ref (b 0), .int x, .int use])).length) Slot.unset).toArray = ls at hl ⊢
  have hl : lv_has ls 4 [(0, .ref (b 0)), (1, .int x), (2, .int use)] := hl
  have inX2 : ∀ w ∈ wsX20, w ∈ wsX2_tell := by decide +kernel
  refine lv_aload_n hx hb dX2_tell_0 rfl (lv_at hl 0 rfl) ?_
  refine lv_iload_n hx hb dX2_tell_1 rfl (lv_at hl 1 rfl) ?_
  by_cases h1 : inR x 0 4
  · skip
    refine vp_callSi (va_Run.run (va_runS (As := [.int x]) (rest := [.ref (b 0)]) ⟨hx, hb, hml, hown, hts⟩ (mX2_isOwner l x) (va_cwS 1 hts gX2_tell_X2_isOwner rfl rfl rfl (by decide +kernel) ⟨Nat.le_of_ble_eq_true rfl, Nat.le_of_ble_eq_true rfl⟩) ⟨fun a U g mk q => q, fun U hU hW => ⟨rfl, trivial⟩⟩ rfl rfl hl.1 rfl (lv_room (Nat.le_of_ble_eq_true rfl)) dX2_tell_2 ⟨Nat.le_of_ble_eq_true rfl, Nat.le_of_ble_eq_true rfl⟩)) (fun r hr1 => ?_)
    obtain rfl : r = 1 := hr1.trans (bI_t (h1))
    refine lv_if_eq (tgt := 22) hx hb dX2_tell_5 (by decide) (fun c => absurd c (by decide)) (fun c => ?_)
    refine lv_iload_n hx hb dX2_tell_8 rfl (lv_at hl 2 rfl) ?_
    refine lv_iconst (v := nI 0) hx hb dX2_tell_9 (by decide) ?_
    refine lv_bipush (v := nI 50) hx hb dX2_tell_10 (by decide) ?_
    refine vp_callSi (va_Run.run (va_runS (As := [.int use, .int (nI 0), .int (nI 50)]) (rest := [.ref (b 0)]) ⟨hx, hb, hml, hown, hts⟩ (mX2_in l use (nI 0) (nI 50)) (va_cwS 3 hts gX2_tell_X2_in rfl rfl rfl (by decide +kernel) ⟨Nat.le_of_ble_eq_true rfl, Nat.le_of_ble_eq_true rfl⟩) ⟨fun a U g mk q => q, fun U hU hW => ⟨rfl, trivial⟩⟩ rfl rfl hl.1 rfl (lv_room (Nat.le_of_ble_eq_true rfl)) dX2_tell_12 ⟨Nat.le_of_ble_eq_true rfl, Nat.le_of_ble_eq_true rfl⟩)) (fun r hr1 => ?_)
    obtain rfl : r = 0 := hr1.trans (bI_f (fun z => hbad ⟨h1, z⟩))
    refine lv_if_eq (tgt := 22) hx hb dX2_tell_15 (by decide) (fun c => ?_) (fun c => absurd c (by decide))
    refine lv_iconst (v := nI 1) hx hb dX2_tell_22 (by decide) ?_
    have hFc := va_free (wc := MW b cI cZ cD mth msh mst msd mbi mpr mba mtn mcl mat mto mak mus mud mfs mfb mbo mso mpc mne) hD hS hA [0, 1, 2, 3, 4, 5, 6, 7, 8, 9, 10, 11, 12, 13, 14, 15] rfl
    refine va_calli (va_runV (As := [.int (nI 1)]) (rest := []) ⟨hx, hb, hml, hown, hts⟩ (mX2_holds l D cI cZ cD b _ mth msh mst msd mbi mpr mba mtn mcl mat mto mak mus mud mfs mfb mbo mso mpc mne (1)) (cwV 1 hts gX2_tell_X2_holds rfl rfl rfl (by decide +kernel) ⟨Nat.le_of_ble_eq_true rfl, Nat.le_of_ble_eq_true rfl⟩) ⟨xk_blind, va_recv hK hP (ci := 2) (q0 := 0) rfl rfl, xk_pre hP hK hD⟩ rfl rfl hl.1 rfl (lv_room (Nat.le_of_ble_eq_true rfl)) dX2_tell_23 ⟨Nat.le_of_ble_eq_true rfl, Nat.le_of_ble_eq_true rfl⟩) hS (fun q _ h => hFc q h) hFc (fun r u t H locs ht hvm hw hB hz1 hk1 hS => ?_)
    obtain ⟨hP, -, hD1⟩ := hB
    rw [ht] at hP
    have hD := hD1.weaken (B := A) (fun _ _ _ h => hFc _ h)
    have hP : va_P D vwCl (MW b cI cZ cD 1 msh mst msd mbi mpr mba mtn mcl mat mto mak mus mud mfs mfb mbo mso mpc mne) H := hP
    have hD : va_D A (MW b cI cZ cD 1 msh mst msd mbi mpr mba mtn mcl mat mto mak mus mud mfs mfb mbo mso mpc mne) := hD
    obtain rfl : r = 0 := hw.trans (bI_f (by decide))
    refine lv_if_ne (tgt := 31) hx hb dX2_tell_26 (by decide) (fun c => absurd c (by decide)) (fun c => ?_)
    refine lv_iconst (v := nI 0) hx hb dX2_tell_29 (by decide) ?_
    exact W.zret hx hb hr rfl (fun t ht hW => ⟨⟨_, (), rfl, rfl, by rw [ht]; exact hP, va_K.moved hW.alike hK, hD⟩, hS.F ht⟩) hS.2.2 dX2_tell_30
  · skip
    refine vp_callSi (va_Run.run (va_runS (As := [.int x]) (rest := [.ref (b 0)]) ⟨hx, hb, hml, hown, hts⟩ (mX2_isOwner l x) (va_cwS 1 hts gX2_tell_X2_isOwner rfl rfl rfl (by decide +kernel) ⟨Nat.le_of_ble_eq_true rfl, Nat.le_of_ble_eq_true rfl⟩) ⟨fun a U g mk q => q, fun U hU hW => ⟨rfl, trivial⟩⟩ rfl rfl hl.1 rfl (lv_room (Nat.le_of_ble_eq_true rfl)) dX2_tell_2 ⟨Nat.le_of_ble_eq_true rfl, Nat.le_of_ble_eq_true rfl⟩)) (fun r hr1 => ?_)
    obtain rfl : r = 0 := hr1.trans (bI_f (h1))
    refine lv_if_eq (tgt := 22) hx hb dX2_tell_5 (by decide) (fun c => ?_) (fun c => absurd c (by decide))
    refine lv_iconst (v := nI 1) hx hb dX2_tell_22 (by decide) ?_
    have hFc := va_free (wc := MW b cI cZ cD mth msh mst msd mbi mpr mba mtn mcl mat mto mak mus mud mfs mfb mbo mso mpc mne) hD hS hA [0, 1, 2, 3, 4, 5, 6, 7, 8, 9, 10, 11, 12, 13, 14, 15] rfl
    refine va_calli (va_runV (As := [.int (nI 1)]) (rest := []) ⟨hx, hb, hml, hown, hts⟩ (mX2_holds l D cI cZ cD b _ mth msh mst msd mbi mpr mba mtn mcl mat mto mak mus mud mfs mfb mbo mso mpc mne (1)) (cwV 1 hts gX2_tell_X2_holds rfl rfl rfl (by decide +kernel) ⟨Nat.le_of_ble_eq_true rfl, Nat.le_of_ble_eq_true rfl⟩) ⟨xk_blind, va_recv hK hP (ci := 2) (q0 := 0) rfl rfl, xk_pre hP hK hD⟩ rfl rfl hl.1 rfl (lv_room (Nat.le_of_ble_eq_true rfl)) dX2_tell_23 ⟨Nat.le_of_ble_eq_true rfl, Nat.le_of_ble_eq_true rfl⟩) hS (fun q _ h => hFc q h) hFc (fun r u t H locs ht hvm hw hB hz1 hk1 hS => ?_)
    obtain ⟨hP, -, hD1⟩ := hB
    rw [ht] at hP
    have hD := hD1.weaken (B := A) (fun _ _ _ h => hFc _ h)
    have hP : va_P D vwCl (MW b cI cZ cD 1 msh mst msd mbi mpr mba mtn mcl mat mto mak mus mud mfs mfb mbo mso mpc mne) H := hP
    have hD : va_D A (MW b cI cZ cD 1 msh mst msd mbi mpr mba mtn mcl mat mto mak mus mud mfs mfb mbo mso mpc mne) := hD
    obtain rfl : r = 0 := hw.trans (bI_f (by decide))
    refine lv_if_ne (tgt := 31) hx hb dX2_tell_26 (by decide) (fun c => absurd c (by decide)) (fun c => ?_)
    refine lv_iconst (v := nI 0) hx hb dX2_tell_29 (by decide) ?_
    exact W.zret hx hb hr rfl (fun t ht hW => ⟨⟨_, (), rfl, rfl, by rw [ht]; exact hP, va_K.moved hW.alike hK, hD⟩, hS.F ht⟩) hS.2.2 dX2_tell_30
set_option maxHeartbeats 4000000 in
set_option maxRecDepth 100000 in
theorem mX2_isQuarter (l : Launch) (D : va_G) (cI cZ cD : ClassId) (b : Nat → Nat) (sz : Nat) (mth : Int32) (msh mst msd : Nat → Int32) (mbi : Nat → UInt64) (mpr mba : UInt64) (mtn : Int32) (mat mto mak : Nat → Int32) (mus mud mfs mfb mbo mso mpc mne : Nat → UInt64) (n : Nat) (hn : n ≤ 60) (q : Int32) : Met l yX2_isQuarter wsX2_isQuarter ({ frames := 1, cells := 0, slots := 0, locals := 22 } : Room) (va_Pc [.ref (b 0), .int q] (XP D cI cZ cD (MW b cI cZ cD mth msh mst msd mbi mpr mba mtn (nI n) mat mto mak mus mud mfs mfb mbo mso mpc mne) sz)) (va_Qi (fun (r : Int32) (u : Unit) => r = bI (isQ n q)) (fun (u : Unit) t => XB D cI cZ cD (MW b cI cZ cD mth msh mst msd mbi mpr mba mtn (nI n) mat mto mak mus mud mfs mfb mbo mso mpc mne) (va_A (MW b cI cZ cD mth msh mst msd mbi mpr mba mtn (nI n) mat mto mak mus mud mfs mfb mbo mso mpc mne) sz) t) (va_A (MW b cI cZ cD mth msh mst msd mbi mpr mba mtn (nI n) mat mto mak mus mud mfs mfb mbo mso mpc mne) sz)) 0 0 (va_A (MW b cI cZ cD mth msh mst msd mbi mpr mba mtn (nI n) mat mto mak mus mud mfs mfb mbo mso mpc mne) sz) := by
  refine Met.ofW (cc := cX2_isQuarter) (maxL := 2) (ret := (some .boolean)) (by decide +kernel) rfl ?_
  intro p e s m args below meth c s₁ B hml hv
  obtain ⟨rfl, hsz, hP, hK, hD0⟩ := hv
  have hx := B.exec
  have hb := B.bytes
  have hr := B.returns
  have hts := atoms_spec (ws := wsX2_isQuarter) B.pre
  have hown : s.vm.findClass RX2 = some m.cls := findClass_of_methodNamed B.named
  have hlocks := B.notSynchronized
  subst hsz
  have hD := hD0.self (sz := s.heap.size)
  generalize hAe : va_A (MW b cI cZ cD mth msh mst msd mbi mpr mba mtn (nI n) mat mto mak mus mud mfs mfb mbo mso mpc mne) s.heap.size = A at hD ⊢
  have hA : ∀ q : Nat, s.heap.size ≤ q → A q := fun q h => by rw [← hAe]; exact Or.inr h
  have hS : va_S A s.heap s.heap [] := va_S.rf
  have hl := lv_entry ([.ref (b 0), .int q]) (n := 2) (Nat.le_of_ble_eq_true rfl)
  rw [lg_entry_eq]
  generalize (lg_sl ([.ref (b 0), .int q]) ++ List.replicate (2 - (lg_sl ([.ref (b 0), .int q])).length) Slot.unset).toArray = ls at hl ⊢
  have hl : lv_has ls 2 [(0, .ref (b 0)), (1, .int q)] := hl
  have inX2 : ∀ w ∈ wsX20, w ∈ wsX2_isQuarter := by decide +kernel
  refine lv_iload_n hx hb dX2_isQuarter_0 rfl (lv_at hl 1 rfl) ?_
  refine lv_iconst (v := nI 0) hx hb dX2_isQuarter_1 (by decide) ?_
  refine lv_aload_n hx hb dX2_isQuarter_2 rfl (lv_at hl 0 rfl) ?_
  refine va_get (D := D) (ci := 2) (v := .int (nI n)) (C := RX2) (T := TX2) (N := 20) hx hb hts inX2 hown hK hP 0 rfl rfl 8 (by decide) (hts (.fieldLink RX2 84 "GridCommonsModel" "closed" "I") (by decide +kernel)) (fun _ h9 => h9) rfl dX2_isQuarter_3 ?_
  refine lv_iconst (v := nI 1) hx hb dX2_isQuarter_6 (by decide) ?_
  refine lv_isub hx hb dX2_isQuarter_7 ?_
  refine vp_callSi (va_Run.run (va_runS (As := [.int q, .int (nI 0), .int ((nI n) - (nI 1))]) (rest := []) ⟨hx, hb, hml, hown, hts⟩ (mX2_in l q (nI 0) (nI n - nI 1)) (va_cwS 3 hts gX2_isQuarter_X2_in rfl rfl rfl (by decide +kernel) ⟨Nat.le_of_ble_eq_true rfl, Nat.le_of_ble_eq_true rfl⟩) ⟨fun a U g mk q => q, fun U hU hW => ⟨rfl, trivial⟩⟩ rfl rfl hl.1 rfl (lv_room (Nat.le_of_ble_eq_true rfl)) dX2_isQuarter_8 ⟨Nat.le_of_ble_eq_true rfl, Nat.le_of_ble_eq_true rfl⟩)) (fun r hr1 => ?_)
  have e9 := hr1.trans (bI_c (isQ_in hn q))
  subst e9
  exact W.zret hx hb hr (bI_nar _) (fun t ht hW => ⟨⟨_, (), rfl, rfl, by rw [ht]; exact hP, va_K.moved hW.alike hK, hD⟩, hS.F ht⟩) hS.2.2 dX2_isQuarter_11
set_option maxHeartbeats 4000000 in
set_option maxRecDepth 100000 in
theorem mX2_isAt (l : Launch) (D : va_G) (cI cZ cD : ClassId) (b : Nat → Nat) (sz : Nat) (mth : Int32) (msh mst msd : Nat → Int32) (mbi : Nat → UInt64) (mpr mba : UInt64) (mtn : Int32) (mat mto mak : Nat → Int32) (mus mud mfs mfb mbo mso mpc mne : Nat → UInt64) (n : Nat) (hn : n ≤ 60) (x q : Int32) : Met l yX2_isAt wsX2_isAt ({ frames := 2, cells := 0, slots := 0, locals := 43 } : Room) (va_Pc [.ref (b 0), .int x, .int q] (XP D cI cZ cD (MW b cI cZ cD mth msh mst msd mbi mpr mba mtn (nI n) mat mto mak mus mud mfs mfb mbo mso mpc mne) sz)) (va_Qi (fun (r : Int32) (u : Int32) => r = bI (inR x 0 4 ∧ isQ n q) ∧ ((u = 0 ∧ inR x 0 4 ∧ isQ n q) ∨ (u = 1 ∧ ¬ inR x 0 4) ∨ (u = 2 ∧ inR x 0 4 ∧ ¬ isQ n q))) (fun (u : Int32) t => XB D cI cZ cD (MW b cI cZ cD u msh mst msd mbi mpr mba mtn (nI n) mat mto mak mus mud mfs mfb mbo mso mpc mne) (va_A (MW b cI cZ cD mth msh mst msd mbi mpr mba mtn (nI n) mat mto mak mus mud mfs mfb mbo mso mpc mne) sz) t) (va_A (MW b cI cZ cD mth msh mst msd mbi mpr mba mtn (nI n) mat mto mak mus mud mfs mfb mbo mso mpc mne) sz)) 0 0 (va_A (MW b cI cZ cD mth msh mst msd mbi mpr mba mtn (nI n) mat mto mak mus mud mfs mfb mbo mso mpc mne) sz) := by
  refine Met.ofW (cc := cX2_isAt) (maxL := 3) (ret := (some .boolean)) (by decide +kernel) rfl ?_
  intro p e s m args below meth c s₁ B hml hv
  obtain ⟨rfl, hsz, hP, hK, hD0⟩ := hv
  have hx := B.exec
  have hb := B.bytes
  have hr := B.returns
  have hts := atoms_spec (ws := wsX2_isAt) B.pre
  have hown : s.vm.findClass RX2 = some m.cls := findClass_of_methodNamed B.named
  have hlocks := B.notSynchronized
  subst hsz
  have hD := hD0.self (sz := s.heap.size)
  generalize hAe : va_A (MW b cI cZ cD mth msh mst msd mbi mpr mba mtn (nI n) mat mto mak mus mud mfs mfb mbo mso mpc mne) s.heap.size = A at hD ⊢
  have hA : ∀ q : Nat, s.heap.size ≤ q → A q := fun q h => by rw [← hAe]; exact Or.inr h
  have hS : va_S A s.heap s.heap [] := va_S.rf
  have hl := lv_entry ([.ref (b 0), .int x, .int q]) (n := 3) (Nat.le_of_ble_eq_true rfl)
  rw [lg_entry_eq]
  generalize (lg_sl ([.ref (b 0), .int x, .int q]) ++ List.replicate (3 - (lg_sl ([.ref (b 0), .int x, .int q])).length) Slot.unset).toArray = ls at hl ⊢
  have hl : lv_has ls 3 [(0, .ref (b 0)), (1, .int x), (2, .int q)] := hl
  have inX2 : ∀ w ∈ wsX20, w ∈ wsX2_isAt := by decide +kernel
  refine lv_aload_n hx hb dX2_isAt_0 rfl (lv_at hl 0 rfl) ?_
  refine lv_iload_n hx hb dX2_isAt_1 rfl (lv_at hl 1 rfl) ?_
  by_cases h1 : inR x 0 4
  · skip
    refine vp_callSi (va_Run.run (va_runS (As := [.int x]) (rest := [.ref (b 0)]) ⟨hx, hb, hml, hown, hts⟩ (mX2_isOwner l x) (va_cwS 1 hts gX2_isAt_X2_isOwner rfl rfl rfl (by decide +kernel) ⟨Nat.le_of_ble_eq_true rfl, Nat.le_of_ble_eq_true rfl⟩) ⟨fun a U g mk q => q, fun U hU hW => ⟨rfl, trivial⟩⟩ rfl rfl hl.1 rfl (lv_room (Nat.le_of_ble_eq_true rfl)) dX2_isAt_2 ⟨Nat.le_of_ble_eq_true rfl, Nat.le_of_ble_eq_true rfl⟩)) (fun r hr1 => ?_)
    obtain rfl : r = 1 := hr1.trans (bI_t (h1))
    refine lv_if_ne (tgt := 12) hx hb dX2_isAt_5 (by decide) (fun c => ?_) (fun c => absurd c (by decide))
    refine lv_aload_n hx hb dX2_isAt_12 rfl (lv_at hl 0 rfl) ?_
    refine lv_iload_n hx hb dX2_isAt_13 rfl (lv_at hl 2 rfl) ?_
    by_cases h2 : isQ n q
    · skip
      have hFc := va_free (wc := MW b cI cZ cD mth msh mst msd mbi mpr mba mtn (nI n) mat mto mak mus mud mfs mfb mbo mso mpc mne) hD hS hA [0, 1, 2, 3, 4, 5, 6, 7, 8, 9, 10, 11, 12, 13, 14, 15] rfl
      refine va_calli (va_runV (As := [.int q]) (rest := [.ref (b 0)]) ⟨hx, hb, hml, hown, hts⟩ (mX2_isQuarter l D cI cZ cD b _ mth msh mst msd mbi mpr mba mtn mat mto mak mus mud mfs mfb mbo mso mpc mne n hn q) (cwV 1 hts gX2_isAt_X2_isQuarter rfl rfl rfl (by decide +kernel) ⟨Nat.le_of_ble_eq_true rfl, Nat.le_of_ble_eq_true rfl⟩) ⟨xk_blind, va_recv hK hP (ci := 2) (q0 := 0) rfl rfl, xk_pre hP hK hD⟩ rfl rfl hl.1 rfl (lv_room (Nat.le_of_ble_eq_true rfl)) dX2_isAt_14 ⟨Nat.le_of_ble_eq_true rfl, Nat.le_of_ble_eq_true rfl⟩) hS (fun q _ h => hFc q h) hFc (fun r u t H locs ht hvm hw hB hz1 hk1 hS => ?_)
      obtain ⟨hP, -, hD1⟩ := hB
      rw [ht] at hP
      have hD := hD1.weaken (B := A) (fun _ _ _ h => hFc _ h)
      have hP : va_P D vwCl (MW b cI cZ cD mth msh mst msd mbi mpr mba mtn (nI n) mat mto mak mus mud mfs mfb mbo mso mpc mne) H := hP
      have hD : va_D A (MW b cI cZ cD mth msh mst msd mbi mpr mba mtn (nI n) mat mto mak mus mud mfs mfb mbo mso mpc mne) := hD
      obtain rfl : r = 1 := hw.trans (bI_t (h2))
      refine lv_if_eq (tgt := 24) hx hb dX2_isAt_17 (by decide) (fun c => absurd c (by decide)) (fun c => ?_)
      refine lv_iconst (v := nI 0) hx hb dX2_isAt_20 (by decide) ?_
      refine lv_goto (tgt := 25) hx hb dX2_isAt_21 (by decide) ?_
      have hFc := va_free (wc := MW b cI cZ cD mth msh mst msd mbi mpr mba mtn (nI n) mat mto mak mus mud mfs mfb mbo mso mpc mne) hD hS hA [0, 1, 2, 3, 4, 5, 6, 7, 8, 9, 10, 11, 12, 13, 14, 15] rfl
      refine va_calli (va_runV (As := [.int (nI 0)]) (rest := []) ⟨hx, hb, hml, hown, hts⟩ (mX2_holds l D cI cZ cD b _ mth msh mst msd mbi mpr mba mtn (nI n) mat mto mak mus mud mfs mfb mbo mso mpc mne (0)) (cwV 1 hts gX2_isAt_X2_holds rfl rfl rfl (by decide +kernel) ⟨Nat.le_of_ble_eq_true rfl, Nat.le_of_ble_eq_true rfl⟩) ⟨xk_blind, va_recv hK hP (ci := 2) (q0 := 0) rfl rfl, xk_pre hP hK hD⟩ rfl rfl hl.1 rfl (lv_room (Nat.le_of_ble_eq_true rfl)) dX2_isAt_25 ⟨Nat.le_of_ble_eq_true rfl, Nat.le_of_ble_eq_true rfl⟩) hS (fun q _ h => hFc q h) hFc (fun r u t H locs ht hvm hw hB hz1 hk1 hS => ?_)
      obtain ⟨hP, -, hD1⟩ := hB
      rw [ht] at hP
      have hD := hD1.weaken (B := A) (fun _ _ _ h => hFc _ h)
      have hP : va_P D vwCl (MW b cI cZ cD 0 msh mst msd mbi mpr mba mtn (nI n) mat mto mak mus mud mfs mfb mbo mso mpc mne) H := hP
      have hD : va_D A (MW b cI cZ cD 0 msh mst msd mbi mpr mba mtn (nI n) mat mto mak mus mud mfs mfb mbo mso mpc mne) := hD
      obtain rfl : r = 1 := hw.trans (bI_t (by decide))
      exact W.zret hx hb hr rfl (fun t ht hW => ⟨⟨_, 0, rfl, ⟨(bI_t ⟨h1, h2⟩).symm, Or.inl ⟨rfl, h1, h2⟩⟩, by rw [ht]; exact hP, va_K.moved hW.alike hK, hD⟩, hS.F ht⟩) hS.2.2 dX2_isAt_28
    · skip
      have hFc := va_free (wc := MW b cI cZ cD mth msh mst msd mbi mpr mba mtn (nI n) mat mto mak mus mud mfs mfb mbo mso mpc mne) hD hS hA [0, 1, 2, 3, 4, 5, 6, 7, 8, 9, 10, 11, 12, 13, 14, 15] rfl
      refine va_calli (va_runV (As := [.int q]) (rest := [.ref (b 0)]) ⟨hx, hb, hml, hown, hts⟩ (mX2_isQuarter l D cI cZ cD b _ mth msh mst msd mbi mpr mba mtn mat mto mak mus mud mfs mfb mbo mso mpc mne n hn q) (cwV 1 hts gX2_isAt_X2_isQuarter rfl rfl rfl (by decide +kernel) ⟨Nat.le_of_ble_eq_true rfl, Nat.le_of_ble_eq_true rfl⟩) ⟨xk_blind, va_recv hK hP (ci := 2) (q0 := 0) rfl rfl, xk_pre hP hK hD⟩ rfl rfl hl.1 rfl (lv_room (Nat.le_of_ble_eq_true rfl)) dX2_isAt_14 ⟨Nat.le_of_ble_eq_true rfl, Nat.le_of_ble_eq_true rfl⟩) hS (fun q _ h => hFc q h) hFc (fun r u t H locs ht hvm hw hB hz1 hk1 hS => ?_)
      obtain ⟨hP, -, hD1⟩ := hB
      rw [ht] at hP
      have hD := hD1.weaken (B := A) (fun _ _ _ h => hFc _ h)
      have hP : va_P D vwCl (MW b cI cZ cD mth msh mst msd mbi mpr mba mtn (nI n) mat mto mak mus mud mfs mfb mbo mso mpc mne) H := hP
      have hD : va_D A (MW b cI cZ cD mth msh mst msd mbi mpr mba mtn (nI n) mat mto mak mus mud mfs mfb mbo mso mpc mne) := hD
      obtain rfl : r = 0 := hw.trans (bI_f (h2))
      refine lv_if_eq (tgt := 24) hx hb dX2_isAt_17 (by decide) (fun c => ?_) (fun c => absurd c (by decide))
      refine lv_iconst (v := nI 2) hx hb dX2_isAt_24 (by decide) ?_
      have hFc := va_free (wc := MW b cI cZ cD mth msh mst msd mbi mpr mba mtn (nI n) mat mto mak mus mud mfs mfb mbo mso mpc mne) hD hS hA [0, 1, 2, 3, 4, 5, 6, 7, 8, 9, 10, 11, 12, 13, 14, 15] rfl
      refine va_calli (va_runV (As := [.int (nI 2)]) (rest := []) ⟨hx, hb, hml, hown, hts⟩ (mX2_holds l D cI cZ cD b _ mth msh mst msd mbi mpr mba mtn (nI n) mat mto mak mus mud mfs mfb mbo mso mpc mne (2)) (cwV 1 hts gX2_isAt_X2_holds rfl rfl rfl (by decide +kernel) ⟨Nat.le_of_ble_eq_true rfl, Nat.le_of_ble_eq_true rfl⟩) ⟨xk_blind, va_recv hK hP (ci := 2) (q0 := 0) rfl rfl, xk_pre hP hK hD⟩ rfl rfl hl.1 rfl (lv_room (Nat.le_of_ble_eq_true rfl)) dX2_isAt_25 ⟨Nat.le_of_ble_eq_true rfl, Nat.le_of_ble_eq_true rfl⟩) hS (fun q _ h => hFc q h) hFc (fun r u t H locs ht hvm hw hB hz1 hk1 hS => ?_)
      obtain ⟨hP, -, hD1⟩ := hB
      rw [ht] at hP
      have hD := hD1.weaken (B := A) (fun _ _ _ h => hFc _ h)
      have hP : va_P D vwCl (MW b cI cZ cD 2 msh mst msd mbi mpr mba mtn (nI n) mat mto mak mus mud mfs mfb mbo mso mpc mne) H := hP
      have hD : va_D A (MW b cI cZ cD 2 msh mst msd mbi mpr mba mtn (nI n) mat mto mak mus mud mfs mfb mbo mso mpc mne) := hD
      obtain rfl : r = 0 := hw.trans (bI_f (by decide))
      exact W.zret hx hb hr rfl (fun t ht hW => ⟨⟨_, 2, rfl, ⟨(bI_f (fun z => h2 z.2)).symm, Or.inr (Or.inr ⟨rfl, h1, h2⟩)⟩, by rw [ht]; exact hP, va_K.moved hW.alike hK, hD⟩, hS.F ht⟩) hS.2.2 dX2_isAt_28
  · skip
    refine vp_callSi (va_Run.run (va_runS (As := [.int x]) (rest := [.ref (b 0)]) ⟨hx, hb, hml, hown, hts⟩ (mX2_isOwner l x) (va_cwS 1 hts gX2_isAt_X2_isOwner rfl rfl rfl (by decide +kernel) ⟨Nat.le_of_ble_eq_true rfl, Nat.le_of_ble_eq_true rfl⟩) ⟨fun a U g mk q => q, fun U hU hW => ⟨rfl, trivial⟩⟩ rfl rfl hl.1 rfl (lv_room (Nat.le_of_ble_eq_true rfl)) dX2_isAt_2 ⟨Nat.le_of_ble_eq_true rfl, Nat.le_of_ble_eq_true rfl⟩)) (fun r hr1 => ?_)
    obtain rfl : r = 0 := hr1.trans (bI_f (h1))
    refine lv_if_ne (tgt := 12) hx hb dX2_isAt_5 (by decide) (fun c => absurd c (by decide)) (fun c => ?_)
    refine lv_iconst (v := nI 1) hx hb dX2_isAt_8 (by decide) ?_
    refine lv_goto (tgt := 25) hx hb dX2_isAt_9 (by decide) ?_
    have hFc := va_free (wc := MW b cI cZ cD mth msh mst msd mbi mpr mba mtn (nI n) mat mto mak mus mud mfs mfb mbo mso mpc mne) hD hS hA [0, 1, 2, 3, 4, 5, 6, 7, 8, 9, 10, 11, 12, 13, 14, 15] rfl
    refine va_calli (va_runV (As := [.int (nI 1)]) (rest := []) ⟨hx, hb, hml, hown, hts⟩ (mX2_holds l D cI cZ cD b _ mth msh mst msd mbi mpr mba mtn (nI n) mat mto mak mus mud mfs mfb mbo mso mpc mne (1)) (cwV 1 hts gX2_isAt_X2_holds rfl rfl rfl (by decide +kernel) ⟨Nat.le_of_ble_eq_true rfl, Nat.le_of_ble_eq_true rfl⟩) ⟨xk_blind, va_recv hK hP (ci := 2) (q0 := 0) rfl rfl, xk_pre hP hK hD⟩ rfl rfl hl.1 rfl (lv_room (Nat.le_of_ble_eq_true rfl)) dX2_isAt_25 ⟨Nat.le_of_ble_eq_true rfl, Nat.le_of_ble_eq_true rfl⟩) hS (fun q _ h => hFc q h) hFc (fun r u t H locs ht hvm hw hB hz1 hk1 hS => ?_)
    obtain ⟨hP, -, hD1⟩ := hB
    rw [ht] at hP
    have hD := hD1.weaken (B := A) (fun _ _ _ h => hFc _ h)
    have hP : va_P D vwCl (MW b cI cZ cD 1 msh mst msd mbi mpr mba mtn (nI n) mat mto mak mus mud mfs mfb mbo mso mpc mne) H := hP
    have hD : va_D A (MW b cI cZ cD 1 msh mst msd mbi mpr mba mtn (nI n) mat mto mak mus mud mfs mfb mbo mso mpc mne) := hD
    obtain rfl : r = 0 := hw.trans (bI_f (by decide))
    exact W.zret hx hb hr rfl (fun t ht hW => ⟨⟨_, 1, rfl, ⟨(bI_f (fun z => h1 z.1)).symm, Or.inr (Or.inl ⟨rfl, h1⟩)⟩, by rw [ht]; exact hP, va_K.moved hW.alike hK, hD⟩, hS.F ht⟩) hS.2.2 dX2_isAt_28
set_option maxHeartbeats 4000000 in
set_option maxRecDepth 100000 in
theorem mX2_useV (l : Launch) (D : va_G) (cI cZ cD : ClassId) (b : Nat → Nat) (sz : Nat) (mth : Int32) (msh mst msd : Nat → Int32) (mbi : Nat → UInt64) (mpr mba : UInt64) (mtn : Int32) (mat mto mak : Nat → Int32) (mus mud mfs mfb mbo mso mpc mne : Nat → UInt64) (n o q : Nat) (hn : n ≤ 60) (ho : o < 5) (hq : q < n) : Met l yX2_use wsX2_use ({ frames := 3, cells := 0, slots := 0, locals := 65 } : Room) (va_Pc [.ref (b 0), .int (nI o), .int (nI q)] (XP D cI cZ cD (MW b cI cZ cD mth msh mst msd mbi mpr mba mtn (nI n) mat mto mak mus mud mfs mfb mbo mso mpc mne) sz)) (va_Qd (fun (r : UInt64) (u : Unit) => r = mus (5 * q + o)) (fun (u : Unit) t => XB D cI cZ cD (MW b cI cZ cD 0 msh mst msd mbi mpr mba mtn (nI n) mat mto mak mus mud mfs mfb mbo mso mpc mne) (va_A (MW b cI cZ cD mth msh mst msd mbi mpr mba mtn (nI n) mat mto mak mus mud mfs mfb mbo mso mpc mne) sz) t) (va_A (MW b cI cZ cD mth msh mst msd mbi mpr mba mtn (nI n) mat mto mak mus mud mfs mfb mbo mso mpc mne) sz)) 0 0 (va_A (MW b cI cZ cD mth msh mst msd mbi mpr mba mtn (nI n) mat mto mak mus mud mfs mfb mbo mso mpc mne) sz) := by
  refine Met.ofW (cc := cX2_use) (maxL := 3) (ret := (some .double)) (by decide +kernel) rfl ?_
  intro p e s m args below meth c s₁ B hml hv
  obtain ⟨rfl, hsz, hP, hK, hD0⟩ := hv
  have hx := B.exec
  have hb := B.bytes
  have hr := B.returns
  have hts := atoms_spec (ws := wsX2_use) B.pre
  have hown : s.vm.findClass RX2 = some m.cls := findClass_of_methodNamed B.named
  have hlocks := B.notSynchronized
  subst hsz
  have hD := hD0.self (sz := s.heap.size)
  generalize hAe : va_A (MW b cI cZ cD mth msh mst msd mbi mpr mba mtn (nI n) mat mto mak mus mud mfs mfb mbo mso mpc mne) s.heap.size = A at hD ⊢
  have hA : ∀ q : Nat, s.heap.size ≤ q → A q := fun q h => by rw [← hAe]; exact Or.inr h
  have hS : va_S A s.heap s.heap [] := va_S.rf
  have hl := lv_entry ([.ref (b 0), .int (nI o), .int (nI q)]) (n := 3) (Nat.le_of_ble_eq_true rfl)
  rw [lg_entry_eq]
  generalize (lg_sl ([.ref (b 0), .int (nI o), .int (nI q)]) ++ List.replicate (3 - (lg_sl ([.ref (b 0), .int (nI o), .int (nI q)])).length) Slot.unset).toArray = ls at hl ⊢
  have hl : lv_has ls 3 [(0, .ref (b 0)), (1, .int (nI o)), (2, .int (nI q))] := hl
  have inX2 : ∀ w ∈ wsX20, w ∈ wsX2_use := by decide +kernel
  have h1 : inR (nI o) 0 4 := nI_inR (n := 4) (by omega) (by decide)
  have h2 : isQ n (nI q) := ⟨nI_pos' (by omega), nI_lt hq (by omega)⟩
  refine lv_aload_n hx hb dX2_use_0 rfl (lv_at hl 0 rfl) ?_
  refine lv_iload_n hx hb dX2_use_1 rfl (lv_at hl 1 rfl) ?_
  refine lv_iload_n hx hb dX2_use_2 rfl (lv_at hl 2 rfl) ?_
  have hFc := va_free (wc := MW b cI cZ cD mth msh mst msd mbi mpr mba mtn (nI n) mat mto mak mus mud mfs mfb mbo mso mpc mne) hD hS hA [0, 1, 2, 3, 4, 5, 6, 7, 8, 9, 10, 11, 12, 13, 14, 15] rfl
  refine va_calli (va_runV (As := [.int (nI o), .int (nI q)]) (rest := []) ⟨hx, hb, hml, hown, hts⟩ (mX2_isAt l D cI cZ cD b _ mth msh mst msd mbi mpr mba mtn mat mto mak mus mud mfs mfb mbo mso mpc mne n hn (nI o) (nI q)) (cwV 2 hts gX2_use_X2_isAt rfl rfl rfl (by decide +kernel) ⟨Nat.le_of_ble_eq_true rfl, Nat.le_of_ble_eq_true rfl⟩) ⟨xk_blind, va_recv hK hP (ci := 2) (q0 := 0) rfl rfl, xk_pre hP hK hD⟩ rfl rfl hl.1 rfl (lv_room (Nat.le_of_ble_eq_true rfl)) dX2_use_3 ⟨Nat.le_of_ble_eq_true rfl, Nat.le_of_ble_eq_true rfl⟩) hS (fun q _ h => hFc q h) hFc (fun r u t H locs ht hvm hw hB hz1 hk1 hS => ?_)
  obtain ⟨hP, -, hD1⟩ := hB
  rw [ht] at hP
  have hD := hD1.weaken (B := A) (fun _ _ _ h => hFc _ h)
  have hP : va_P D vwCl (MW b cI cZ cD u msh mst msd mbi mpr mba mtn (nI n) mat mto mak mus mud mfs mfb mbo mso mpc mne) H := hP
  have hD : va_D A (MW b cI cZ cD u msh mst msd mbi mpr mba mtn (nI n) mat mto mak mus mud mfs mfb mbo mso mpc mne) := hD
  obtain ⟨rfl, hu⟩ := hw
  obtain rfl : u = 0 := by
    rcases hu with hu | hu | hu
    · exact hu.1
    · exact absurd h1 hu.2
    · exact absurd h2 hu.2.2
  refine lv_if_eq (tgt := 22) hx hb dX2_use_6 (by decide) (fun c => absurd ⟨h1, h2⟩ (bI_0.mp c)) (fun c => ?_)
  refine lv_aload_n hx hb dX2_use_9 rfl (lv_at hl 0 rfl) ?_
  refine va_get (D := D) (ci := 2) (v := .ref (b 8)) (C := RX2) (T := TX2) (N := 20) hx hb hts inX2 hown hK hP 0 rfl rfl 12 (by decide) (hts (.fieldLink RX2 39 "GridCommonsModel" "uses" "[D") (by decide +kernel)) (fun _ h9 => h9) rfl dX2_use_10 ?_
  refine lv_iconst (v := nI 5) hx hb dX2_use_13 (by decide) ?_
  refine lv_iload_n hx hb dX2_use_14 rfl (lv_at hl 2 rfl) ?_
  refine lv_imul hx hb dX2_use_15 ?_
  refine lv_iload_n hx hb dX2_use_16 rfl (lv_at hl 1 rfl) ?_
  refine lv_iadd hx hb dX2_use_17 ?_
  refine xk_i (y := nI (5 * q + o)) (u5 q o) ?_
  refine xk_dald hx hb hK hP 8 2 rfl rfl (o := (5 * q + o)) (by omega) (by decide) dX2_use_18 ?_
  refine lv_goto (tgt := 23) hx hb dX2_use_19 (by decide) ?_
  exact W.dret hx hb hr (fun t ht hW => ⟨⟨_, (), rfl, rfl, by rw [ht]; exact hP, va_K.moved hW.alike hK, hD⟩, hS.F ht⟩) hS.2.2 dX2_use_23
set_option maxHeartbeats 4000000 in
set_option maxRecDepth 100000 in
theorem mX2_useX (l : Launch) (D : va_G) (cI cZ cD : ClassId) (b : Nat → Nat) (sz : Nat) (mth : Int32) (msh mst msd : Nat → Int32) (mbi : Nat → UInt64) (mpr mba : UInt64) (mtn : Int32) (mat mto mak : Nat → Int32) (mus mud mfs mfb mbo mso mpc mne : Nat → UInt64) (n : Nat) (hn : n ≤ 60) (x q : Int32) (hbad : ¬ (inR x 0 4 ∧ isQ n q)) : Met l yX2_use wsX2_use ({ frames := 3, cells := 0, slots := 0, locals := 65 } : Room) (va_Pc [.ref (b 0), .int x, .int q] (XP D cI cZ cD (MW b cI cZ cD mth msh mst msd mbi mpr mba mtn (nI n) mat mto mak mus mud mfs mfb mbo mso mpc mne) sz)) (va_Qd (fun (r : UInt64) (u : Int32) => (u = 1 ∧ ¬ inR x 0 4) ∨ (u = 2 ∧ inR x 0 4 ∧ ¬ isQ n q)) (fun (u : Int32) t => XB D cI cZ cD (MW b cI cZ cD u msh mst msd mbi mpr mba mtn (nI n) mat mto mak mus mud mfs mfb mbo mso mpc mne) (va_A (MW b cI cZ cD mth msh mst msd mbi mpr mba mtn (nI n) mat mto mak mus mud mfs mfb mbo mso mpc mne) sz) t) (va_A (MW b cI cZ cD mth msh mst msd mbi mpr mba mtn (nI n) mat mto mak mus mud mfs mfb mbo mso mpc mne) sz)) 0 0 (va_A (MW b cI cZ cD mth msh mst msd mbi mpr mba mtn (nI n) mat mto mak mus mud mfs mfb mbo mso mpc mne) sz) := by
  refine Met.ofW (cc := cX2_use) (maxL := 3) (ret := (some .double)) (by decide +kernel) rfl ?_
  intro p e s m args below meth c s₁ B hml hv
  obtain ⟨rfl, hsz, hP, hK, hD0⟩ := hv
  have hx := B.exec
  have hb := B.bytes
  have hr := B.returns
  have hts := atoms_spec (ws := wsX2_use) B.pre
  have hown : s.vm.findClass RX2 = some m.cls := findClass_of_methodNamed B.named
  have hlocks := B.notSynchronized
  subst hsz
  have hD := hD0.self (sz := s.heap.size)
  generalize hAe : va_A (MW b cI cZ cD mth msh mst msd mbi mpr mba mtn (nI n) mat mto mak mus mud mfs mfb mbo mso mpc mne) s.heap.size = A at hD ⊢
  have hA : ∀ q : Nat, s.heap.size ≤ q → A q := fun q h => by rw [← hAe]; exact Or.inr h
  have hS : va_S A s.heap s.heap [] := va_S.rf
  have hl := lv_entry ([.ref (b 0), .int x, .int q]) (n := 3) (Nat.le_of_ble_eq_true rfl)
  rw [lg_entry_eq]
  generalize (lg_sl ([.ref (b 0), .int x, .int q]) ++ List.replicate (3 - (lg_sl ([.ref (b 0), .int x, .int q])).length) Slot.unset).toArray = ls at hl ⊢
  have hl : lv_has ls 3 [(0, .ref (b 0)), (1, .int x), (2, .int q)] := hl
  have inX2 : ∀ w ∈ wsX20, w ∈ wsX2_use := by decide +kernel
  refine lv_aload_n hx hb dX2_use_0 rfl (lv_at hl 0 rfl) ?_
  refine lv_iload_n hx hb dX2_use_1 rfl (lv_at hl 1 rfl) ?_
  refine lv_iload_n hx hb dX2_use_2 rfl (lv_at hl 2 rfl) ?_
  have hFc := va_free (wc := MW b cI cZ cD mth msh mst msd mbi mpr mba mtn (nI n) mat mto mak mus mud mfs mfb mbo mso mpc mne) hD hS hA [0, 1, 2, 3, 4, 5, 6, 7, 8, 9, 10, 11, 12, 13, 14, 15] rfl
  refine va_calli (va_runV (As := [.int x, .int q]) (rest := []) ⟨hx, hb, hml, hown, hts⟩ (mX2_isAt l D cI cZ cD b _ mth msh mst msd mbi mpr mba mtn mat mto mak mus mud mfs mfb mbo mso mpc mne n hn x q) (cwV 2 hts gX2_use_X2_isAt rfl rfl rfl (by decide +kernel) ⟨Nat.le_of_ble_eq_true rfl, Nat.le_of_ble_eq_true rfl⟩) ⟨xk_blind, va_recv hK hP (ci := 2) (q0 := 0) rfl rfl, xk_pre hP hK hD⟩ rfl rfl hl.1 rfl (lv_room (Nat.le_of_ble_eq_true rfl)) dX2_use_3 ⟨Nat.le_of_ble_eq_true rfl, Nat.le_of_ble_eq_true rfl⟩) hS (fun q _ h => hFc q h) hFc (fun r u t H locs ht hvm hw hB hz1 hk1 hS => ?_)
  obtain ⟨hP, -, hD1⟩ := hB
  rw [ht] at hP
  have hD := hD1.weaken (B := A) (fun _ _ _ h => hFc _ h)
  have hP : va_P D vwCl (MW b cI cZ cD u msh mst msd mbi mpr mba mtn (nI n) mat mto mak mus mud mfs mfb mbo mso mpc mne) H := hP
  have hD : va_D A (MW b cI cZ cD u msh mst msd mbi mpr mba mtn (nI n) mat mto mak mus mud mfs mfb mbo mso mpc mne) := hD
  obtain ⟨rfl, hu⟩ := hw
  have hu2 : (u = 1 ∧ ¬ inR x 0 4) ∨ (u = 2 ∧ inR x 0 4 ∧ ¬ isQ n q) := by
    rcases hu with hu | hu
    · exact absurd hu.2 hbad
    · exact hu
  refine lv_if_eq (tgt := 22) hx hb dX2_use_6 (by decide) (fun c => ?_) (fun c => absurd (bI_0.mpr hbad) c)
  refine lv_dconst0 hx hb dX2_use_22 ?_
  exact W.dret hx hb hr (fun t ht hW => ⟨⟨_, u, rfl, hu2, by rw [ht]; exact hP, va_K.moved hW.alike hK, hD⟩, hS.F ht⟩) hS.2.2 dX2_use_23
set_option maxHeartbeats 4000000 in
set_option maxRecDepth 100000 in
theorem mX2_fromSunV (l : Launch) (D : va_G) (cI cZ cD : ClassId) (b : Nat → Nat) (sz : Nat) (mth : Int32) (msh mst msd : Nat → Int32) (mbi : Nat → UInt64) (mpr mba : UInt64) (mtn : Int32) (mat mto mak : Nat → Int32) (mus mud mfs mfb mbo mso mpc mne : Nat → UInt64) (n o q : Nat) (hn : n ≤ 60) (ho : o < 5) (hq : q < n) : Met l yX2_fromSun wsX2_fromSun ({ frames := 3, cells := 0, slots := 0, locals := 65 } : Room) (va_Pc [.ref (b 0), .int (nI o), .int (nI q)] (XP D cI cZ cD (MW b cI cZ cD mth msh mst msd mbi mpr mba mtn (nI n) mat mto mak mus mud mfs mfb mbo mso mpc mne) sz)) (va_Qd (fun (r : UInt64) (u : Unit) => r = mfs (5 * q + o)) (fun (u : Unit) t => XB D cI cZ cD (MW b cI cZ cD 0 msh mst msd mbi mpr mba mtn (nI n) mat mto mak mus mud mfs mfb mbo mso mpc mne) (va_A (MW b cI cZ cD mth msh mst msd mbi mpr mba mtn (nI n) mat mto mak mus mud mfs mfb mbo mso mpc mne) sz) t) (va_A (MW b cI cZ cD mth msh mst msd mbi mpr mba mtn (nI n) mat mto mak mus mud mfs mfb mbo mso mpc mne) sz)) 0 0 (va_A (MW b cI cZ cD mth msh mst msd mbi mpr mba mtn (nI n) mat mto mak mus mud mfs mfb mbo mso mpc mne) sz) := by
  refine Met.ofW (cc := cX2_fromSun) (maxL := 3) (ret := (some .double)) (by decide +kernel) rfl ?_
  intro p e s m args below meth c s₁ B hml hv
  obtain ⟨rfl, hsz, hP, hK, hD0⟩ := hv
  have hx := B.exec
  have hb := B.bytes
  have hr := B.returns
  have hts := atoms_spec (ws := wsX2_fromSun) B.pre
  have hown : s.vm.findClass RX2 = some m.cls := findClass_of_methodNamed B.named
  have hlocks := B.notSynchronized
  subst hsz
  have hD := hD0.self (sz := s.heap.size)
  generalize hAe : va_A (MW b cI cZ cD mth msh mst msd mbi mpr mba mtn (nI n) mat mto mak mus mud mfs mfb mbo mso mpc mne) s.heap.size = A at hD ⊢
  have hA : ∀ q : Nat, s.heap.size ≤ q → A q := fun q h => by rw [← hAe]; exact Or.inr h
  have hS : va_S A s.heap s.heap [] := va_S.rf
  have hl := lv_entry ([.ref (b 0), .int (nI o), .int (nI q)]) (n := 3) (Nat.le_of_ble_eq_true rfl)
  rw [lg_entry_eq]
  generalize (lg_sl ([.ref (b 0), .int (nI o), .int (nI q)]) ++ List.replicate (3 - (lg_sl ([.ref (b 0), .int (nI o), .int (nI q)])).length) Slot.unset).toArray = ls at hl ⊢
  have hl : lv_has ls 3 [(0, .ref (b 0)), (1, .int (nI o)), (2, .int (nI q))] := hl
  have inX2 : ∀ w ∈ wsX20, w ∈ wsX2_fromSun := by decide +kernel
  have h1 : inR (nI o) 0 4 := nI_inR (n := 4) (by omega) (by decide)
  have h2 : isQ n (nI q) := ⟨nI_pos' (by omega), nI_lt hq (by omega)⟩
  refine lv_aload_n hx hb dX2_fromSun_0 rfl (lv_at hl 0 rfl) ?_
  refine lv_iload_n hx hb dX2_fromSun_1 rfl (lv_at hl 1 rfl) ?_
  refine lv_iload_n hx hb dX2_fromSun_2 rfl (lv_at hl 2 rfl) ?_
  have hFc := va_free (wc := MW b cI cZ cD mth msh mst msd mbi mpr mba mtn (nI n) mat mto mak mus mud mfs mfb mbo mso mpc mne) hD hS hA [0, 1, 2, 3, 4, 5, 6, 7, 8, 9, 10, 11, 12, 13, 14, 15] rfl
  refine va_calli (va_runV (As := [.int (nI o), .int (nI q)]) (rest := []) ⟨hx, hb, hml, hown, hts⟩ (mX2_isAt l D cI cZ cD b _ mth msh mst msd mbi mpr mba mtn mat mto mak mus mud mfs mfb mbo mso mpc mne n hn (nI o) (nI q)) (cwV 2 hts gX2_fromSun_X2_isAt rfl rfl rfl (by decide +kernel) ⟨Nat.le_of_ble_eq_true rfl, Nat.le_of_ble_eq_true rfl⟩) ⟨xk_blind, va_recv hK hP (ci := 2) (q0 := 0) rfl rfl, xk_pre hP hK hD⟩ rfl rfl hl.1 rfl (lv_room (Nat.le_of_ble_eq_true rfl)) dX2_fromSun_3 ⟨Nat.le_of_ble_eq_true rfl, Nat.le_of_ble_eq_true rfl⟩) hS (fun q _ h => hFc q h) hFc (fun r u t H locs ht hvm hw hB hz1 hk1 hS => ?_)
  obtain ⟨hP, -, hD1⟩ := hB
  rw [ht] at hP
  have hD := hD1.weaken (B := A) (fun _ _ _ h => hFc _ h)
  have hP : va_P D vwCl (MW b cI cZ cD u msh mst msd mbi mpr mba mtn (nI n) mat mto mak mus mud mfs mfb mbo mso mpc mne) H := hP
  have hD : va_D A (MW b cI cZ cD u msh mst msd mbi mpr mba mtn (nI n) mat mto mak mus mud mfs mfb mbo mso mpc mne) := hD
  obtain ⟨rfl, hu⟩ := hw
  obtain rfl : u = 0 := by
    rcases hu with hu | hu | hu
    · exact hu.1
    · exact absurd h1 hu.2
    · exact absurd h2 hu.2.2
  refine lv_if_eq (tgt := 22) hx hb dX2_fromSun_6 (by decide) (fun c => absurd ⟨h1, h2⟩ (bI_0.mp c)) (fun c => ?_)
  refine lv_aload_n hx hb dX2_fromSun_9 rfl (lv_at hl 0 rfl) ?_
  refine va_get (D := D) (ci := 2) (v := .ref (b 10)) (C := RX2) (T := TX2) (N := 20) hx hb hts inX2 hown hK hP 0 rfl rfl 14 (by decide) (hts (.fieldLink RX2 45 "GridCommonsModel" "fromSun" "[D") (by decide +kernel)) (fun _ h9 => h9) rfl dX2_fromSun_10 ?_
  refine lv_iconst (v := nI 5) hx hb dX2_fromSun_13 (by decide) ?_
  refine lv_iload_n hx hb dX2_fromSun_14 rfl (lv_at hl 2 rfl) ?_
  refine lv_imul hx hb dX2_fromSun_15 ?_
  refine lv_iload_n hx hb dX2_fromSun_16 rfl (lv_at hl 1 rfl) ?_
  refine lv_iadd hx hb dX2_fromSun_17 ?_
  refine xk_i (y := nI (5 * q + o)) (u5 q o) ?_
  refine xk_dald hx hb hK hP 10 2 rfl rfl (o := (5 * q + o)) (by omega) (by decide) dX2_fromSun_18 ?_
  refine lv_goto (tgt := 23) hx hb dX2_fromSun_19 (by decide) ?_
  exact W.dret hx hb hr (fun t ht hW => ⟨⟨_, (), rfl, rfl, by rw [ht]; exact hP, va_K.moved hW.alike hK, hD⟩, hS.F ht⟩) hS.2.2 dX2_fromSun_23
set_option maxHeartbeats 4000000 in
set_option maxRecDepth 100000 in
theorem mX2_fromSunX (l : Launch) (D : va_G) (cI cZ cD : ClassId) (b : Nat → Nat) (sz : Nat) (mth : Int32) (msh mst msd : Nat → Int32) (mbi : Nat → UInt64) (mpr mba : UInt64) (mtn : Int32) (mat mto mak : Nat → Int32) (mus mud mfs mfb mbo mso mpc mne : Nat → UInt64) (n : Nat) (hn : n ≤ 60) (x q : Int32) (hbad : ¬ (inR x 0 4 ∧ isQ n q)) : Met l yX2_fromSun wsX2_fromSun ({ frames := 3, cells := 0, slots := 0, locals := 65 } : Room) (va_Pc [.ref (b 0), .int x, .int q] (XP D cI cZ cD (MW b cI cZ cD mth msh mst msd mbi mpr mba mtn (nI n) mat mto mak mus mud mfs mfb mbo mso mpc mne) sz)) (va_Qd (fun (r : UInt64) (u : Int32) => (u = 1 ∧ ¬ inR x 0 4) ∨ (u = 2 ∧ inR x 0 4 ∧ ¬ isQ n q)) (fun (u : Int32) t => XB D cI cZ cD (MW b cI cZ cD u msh mst msd mbi mpr mba mtn (nI n) mat mto mak mus mud mfs mfb mbo mso mpc mne) (va_A (MW b cI cZ cD mth msh mst msd mbi mpr mba mtn (nI n) mat mto mak mus mud mfs mfb mbo mso mpc mne) sz) t) (va_A (MW b cI cZ cD mth msh mst msd mbi mpr mba mtn (nI n) mat mto mak mus mud mfs mfb mbo mso mpc mne) sz)) 0 0 (va_A (MW b cI cZ cD mth msh mst msd mbi mpr mba mtn (nI n) mat mto mak mus mud mfs mfb mbo mso mpc mne) sz) := by
  refine Met.ofW (cc := cX2_fromSun) (maxL := 3) (ret := (some .double)) (by decide +kernel) rfl ?_
  intro p e s m args below meth c s₁ B hml hv
  obtain ⟨rfl, hsz, hP, hK, hD0⟩ := hv
  have hx := B.exec
  have hb := B.bytes
  have hr := B.returns
  have hts := atoms_spec (ws := wsX2_fromSun) B.pre
  have hown : s.vm.findClass RX2 = some m.cls := findClass_of_methodNamed B.named
  have hlocks := B.notSynchronized
  subst hsz
  have hD := hD0.self (sz := s.heap.size)
  generalize hAe : va_A (MW b cI cZ cD mth msh mst msd mbi mpr mba mtn (nI n) mat mto mak mus mud mfs mfb mbo mso mpc mne) s.heap.size = A at hD ⊢
  have hA : ∀ q : Nat, s.heap.size ≤ q → A q := fun q h => by rw [← hAe]; exact Or.inr h
  have hS : va_S A s.heap s.heap [] := va_S.rf
  have hl := lv_entry ([.ref (b 0), .int x, .int q]) (n := 3) (Nat.le_of_ble_eq_true rfl)
  rw [lg_entry_eq]
  generalize (lg_sl ([.ref (b 0), .int x, .int q]) ++ List.replicate (3 - (lg_sl ([.ref (b 0), .int x, .int q])).length) Slot.unset).toArray = ls at hl ⊢
  have hl : lv_has ls 3 [(0, .ref (b 0)), (1, .int x), (2, .int q)] := hl
  have inX2 : ∀ w ∈ wsX20, w ∈ wsX2_fromSun := by decide +kernel
  refine lv_aload_n hx hb dX2_fromSun_0 rfl (lv_at hl 0 rfl) ?_
  refine lv_iload_n hx hb dX2_fromSun_1 rfl (lv_at hl 1 rfl) ?_
  refine lv_iload_n hx hb dX2_fromSun_2 rfl (lv_at hl 2 rfl) ?_
  have hFc := va_free (wc := MW b cI cZ cD mth msh mst msd mbi mpr mba mtn (nI n) mat mto mak mus mud mfs mfb mbo mso mpc mne) hD hS hA [0, 1, 2, 3, 4, 5, 6, 7, 8, 9, 10, 11, 12, 13, 14, 15] rfl
  refine va_calli (va_runV (As := [.int x, .int q]) (rest := []) ⟨hx, hb, hml, hown, hts⟩ (mX2_isAt l D cI cZ cD b _ mth msh mst msd mbi mpr mba mtn mat mto mak mus mud mfs mfb mbo mso mpc mne n hn x q) (cwV 2 hts gX2_fromSun_X2_isAt rfl rfl rfl (by decide +kernel) ⟨Nat.le_of_ble_eq_true rfl, Nat.le_of_ble_eq_true rfl⟩) ⟨xk_blind, va_recv hK hP (ci := 2) (q0 := 0) rfl rfl, xk_pre hP hK hD⟩ rfl rfl hl.1 rfl (lv_room (Nat.le_of_ble_eq_true rfl)) dX2_fromSun_3 ⟨Nat.le_of_ble_eq_true rfl, Nat.le_of_ble_eq_true rfl⟩) hS (fun q _ h => hFc q h) hFc (fun r u t H locs ht hvm hw hB hz1 hk1 hS => ?_)
  obtain ⟨hP, -, hD1⟩ := hB
  rw [ht] at hP
  have hD := hD1.weaken (B := A) (fun _ _ _ h => hFc _ h)
  have hP : va_P D vwCl (MW b cI cZ cD u msh mst msd mbi mpr mba mtn (nI n) mat mto mak mus mud mfs mfb mbo mso mpc mne) H := hP
  have hD : va_D A (MW b cI cZ cD u msh mst msd mbi mpr mba mtn (nI n) mat mto mak mus mud mfs mfb mbo mso mpc mne) := hD
  obtain ⟨rfl, hu⟩ := hw
  have hu2 : (u = 1 ∧ ¬ inR x 0 4) ∨ (u = 2 ∧ inR x 0 4 ∧ ¬ isQ n q) := by
    rcases hu with hu | hu
    · exact absurd hu.2 hbad
    · exact hu
  refine lv_if_eq (tgt := 22) hx hb dX2_fromSun_6 (by decide) (fun c => ?_) (fun c => absurd (bI_0.mpr hbad) c)
  refine lv_dconst0 hx hb dX2_fromSun_22 ?_
  exact W.dret hx hb hr (fun t ht hW => ⟨⟨_, u, rfl, hu2, by rw [ht]; exact hP, va_K.moved hW.alike hK, hD⟩, hS.F ht⟩) hS.2.2 dX2_fromSun_23
set_option maxHeartbeats 4000000 in
set_option maxRecDepth 100000 in
theorem mX2_fromBatteryV (l : Launch) (D : va_G) (cI cZ cD : ClassId) (b : Nat → Nat) (sz : Nat) (mth : Int32) (msh mst msd : Nat → Int32) (mbi : Nat → UInt64) (mpr mba : UInt64) (mtn : Int32) (mat mto mak : Nat → Int32) (mus mud mfs mfb mbo mso mpc mne : Nat → UInt64) (n o q : Nat) (hn : n ≤ 60) (ho : o < 5) (hq : q < n) : Met l yX2_fromBattery wsX2_fromBattery ({ frames := 3, cells := 0, slots := 0, locals := 65 } : Room) (va_Pc [.ref (b 0), .int (nI o), .int (nI q)] (XP D cI cZ cD (MW b cI cZ cD mth msh mst msd mbi mpr mba mtn (nI n) mat mto mak mus mud mfs mfb mbo mso mpc mne) sz)) (va_Qd (fun (r : UInt64) (u : Unit) => r = mfb (5 * q + o)) (fun (u : Unit) t => XB D cI cZ cD (MW b cI cZ cD 0 msh mst msd mbi mpr mba mtn (nI n) mat mto mak mus mud mfs mfb mbo mso mpc mne) (va_A (MW b cI cZ cD mth msh mst msd mbi mpr mba mtn (nI n) mat mto mak mus mud mfs mfb mbo mso mpc mne) sz) t) (va_A (MW b cI cZ cD mth msh mst msd mbi mpr mba mtn (nI n) mat mto mak mus mud mfs mfb mbo mso mpc mne) sz)) 0 0 (va_A (MW b cI cZ cD mth msh mst msd mbi mpr mba mtn (nI n) mat mto mak mus mud mfs mfb mbo mso mpc mne) sz) := by
  refine Met.ofW (cc := cX2_fromBattery) (maxL := 3) (ret := (some .double)) (by decide +kernel) rfl ?_
  intro p e s m args below meth c s₁ B hml hv
  obtain ⟨rfl, hsz, hP, hK, hD0⟩ := hv
  have hx := B.exec
  have hb := B.bytes
  have hr := B.returns
  have hts := atoms_spec (ws := wsX2_fromBattery) B.pre
  have hown : s.vm.findClass RX2 = some m.cls := findClass_of_methodNamed B.named
  have hlocks := B.notSynchronized
  subst hsz
  have hD := hD0.self (sz := s.heap.size)
  generalize hAe : va_A (MW b cI cZ cD mth msh mst msd mbi mpr mba mtn (nI n) mat mto mak mus mud mfs mfb mbo mso mpc mne) s.heap.size = A at hD ⊢
  have hA : ∀ q : Nat, s.heap.size ≤ q → A q := fun q h => by rw [← hAe]; exact Or.inr h
  have hS : va_S A s.heap s.heap [] := va_S.rf
  have hl := lv_entry ([.ref (b 0), .int (nI o), .int (nI q)]) (n := 3) (Nat.le_of_ble_eq_true rfl)
  rw [lg_entry_eq]
  generalize (lg_sl ([.ref (b 0), .int (nI o), .int (nI q)]) ++ List.replicate (3 - (lg_sl ([.ref (b 0), .int (nI o), .int (nI q)])).length) Slot.unset).toArray = ls at hl ⊢
  have hl : lv_has ls 3 [(0, .ref (b 0)), (1, .int (nI o)), (2, .int (nI q))] := hl
  have inX2 : ∀ w ∈ wsX20, w ∈ wsX2_fromBattery := by decide +kernel
  have h1 : inR (nI o) 0 4 := nI_inR (n := 4) (by omega) (by decide)
  have h2 : isQ n (nI q) := ⟨nI_pos' (by omega), nI_lt hq (by omega)⟩
  refine lv_aload_n hx hb dX2_fromBattery_0 rfl (lv_at hl 0 rfl) ?_
  refine lv_iload_n hx hb dX2_fromBattery_1 rfl (lv_at hl 1 rfl) ?_
  refine lv_iload_n hx hb dX2_fromBattery_2 rfl (lv_at hl 2 rfl) ?_
  have hFc := va_free (wc := MW b cI cZ cD mth msh mst msd mbi mpr mba mtn (nI n) mat mto mak mus mud mfs mfb mbo mso mpc mne) hD hS hA [0, 1, 2, 3, 4, 5, 6, 7, 8, 9, 10, 11, 12, 13, 14, 15] rfl
  refine va_calli (va_runV (As := [.int (nI o), .int (nI q)]) (rest := []) ⟨hx, hb, hml, hown, hts⟩ (mX2_isAt l D cI cZ cD b _ mth msh mst msd mbi mpr mba mtn mat mto mak mus mud mfs mfb mbo mso mpc mne n hn (nI o) (nI q)) (cwV 2 hts gX2_fromBattery_X2_isAt rfl rfl rfl (by decide +kernel) ⟨Nat.le_of_ble_eq_true rfl, Nat.le_of_ble_eq_true rfl⟩) ⟨xk_blind, va_recv hK hP (ci := 2) (q0 := 0) rfl rfl, xk_pre hP hK hD⟩ rfl rfl hl.1 rfl (lv_room (Nat.le_of_ble_eq_true rfl)) dX2_fromBattery_3 ⟨Nat.le_of_ble_eq_true rfl, Nat.le_of_ble_eq_true rfl⟩) hS (fun q _ h => hFc q h) hFc (fun r u t H locs ht hvm hw hB hz1 hk1 hS => ?_)
  obtain ⟨hP, -, hD1⟩ := hB
  rw [ht] at hP
  have hD := hD1.weaken (B := A) (fun _ _ _ h => hFc _ h)
  have hP : va_P D vwCl (MW b cI cZ cD u msh mst msd mbi mpr mba mtn (nI n) mat mto mak mus mud mfs mfb mbo mso mpc mne) H := hP
  have hD : va_D A (MW b cI cZ cD u msh mst msd mbi mpr mba mtn (nI n) mat mto mak mus mud mfs mfb mbo mso mpc mne) := hD
  obtain ⟨rfl, hu⟩ := hw
  obtain rfl : u = 0 := by
    rcases hu with hu | hu | hu
    · exact hu.1
    · exact absurd h1 hu.2
    · exact absurd h2 hu.2.2
  refine lv_if_eq (tgt := 22) hx hb dX2_fromBattery_6 (by decide) (fun c => absurd ⟨h1, h2⟩ (bI_0.mp c)) (fun c => ?_)
  refine lv_aload_n hx hb dX2_fromBattery_9 rfl (lv_at hl 0 rfl) ?_
  refine va_get (D := D) (ci := 2) (v := .ref (b 11)) (C := RX2) (T := TX2) (N := 20) hx hb hts inX2 hown hK hP 0 rfl rfl 15 (by decide) (hts (.fieldLink RX2 48 "GridCommonsModel" "fromBattery" "[D") (by decide +kernel)) (fun _ h9 => h9) rfl dX2_fromBattery_10 ?_
  refine lv_iconst (v := nI 5) hx hb dX2_fromBattery_13 (by decide) ?_
  refine lv_iload_n hx hb dX2_fromBattery_14 rfl (lv_at hl 2 rfl) ?_
  refine lv_imul hx hb dX2_fromBattery_15 ?_
  refine lv_iload_n hx hb dX2_fromBattery_16 rfl (lv_at hl 1 rfl) ?_
  refine lv_iadd hx hb dX2_fromBattery_17 ?_
  refine xk_i (y := nI (5 * q + o)) (u5 q o) ?_
  refine xk_dald hx hb hK hP 11 2 rfl rfl (o := (5 * q + o)) (by omega) (by decide) dX2_fromBattery_18 ?_
  refine lv_goto (tgt := 23) hx hb dX2_fromBattery_19 (by decide) ?_
  exact W.dret hx hb hr (fun t ht hW => ⟨⟨_, (), rfl, rfl, by rw [ht]; exact hP, va_K.moved hW.alike hK, hD⟩, hS.F ht⟩) hS.2.2 dX2_fromBattery_23
set_option maxHeartbeats 4000000 in
set_option maxRecDepth 100000 in
theorem mX2_fromBatteryX (l : Launch) (D : va_G) (cI cZ cD : ClassId) (b : Nat → Nat) (sz : Nat) (mth : Int32) (msh mst msd : Nat → Int32) (mbi : Nat → UInt64) (mpr mba : UInt64) (mtn : Int32) (mat mto mak : Nat → Int32) (mus mud mfs mfb mbo mso mpc mne : Nat → UInt64) (n : Nat) (hn : n ≤ 60) (x q : Int32) (hbad : ¬ (inR x 0 4 ∧ isQ n q)) : Met l yX2_fromBattery wsX2_fromBattery ({ frames := 3, cells := 0, slots := 0, locals := 65 } : Room) (va_Pc [.ref (b 0), .int x, .int q] (XP D cI cZ cD (MW b cI cZ cD mth msh mst msd mbi mpr mba mtn (nI n) mat mto mak mus mud mfs mfb mbo mso mpc mne) sz)) (va_Qd (fun (r : UInt64) (u : Int32) => (u = 1 ∧ ¬ inR x 0 4) ∨ (u = 2 ∧ inR x 0 4 ∧ ¬ isQ n q)) (fun (u : Int32) t => XB D cI cZ cD (MW b cI cZ cD u msh mst msd mbi mpr mba mtn (nI n) mat mto mak mus mud mfs mfb mbo mso mpc mne) (va_A (MW b cI cZ cD mth msh mst msd mbi mpr mba mtn (nI n) mat mto mak mus mud mfs mfb mbo mso mpc mne) sz) t) (va_A (MW b cI cZ cD mth msh mst msd mbi mpr mba mtn (nI n) mat mto mak mus mud mfs mfb mbo mso mpc mne) sz)) 0 0 (va_A (MW b cI cZ cD mth msh mst msd mbi mpr mba mtn (nI n) mat mto mak mus mud mfs mfb mbo mso mpc mne) sz) := by
  refine Met.ofW (cc := cX2_fromBattery) (maxL := 3) (ret := (some .double)) (by decide +kernel) rfl ?_
  intro p e s m args below meth c s₁ B hml hv
  obtain ⟨rfl, hsz, hP, hK, hD0⟩ := hv
  have hx := B.exec
  have hb := B.bytes
  have hr := B.returns
  have hts := atoms_spec (ws := wsX2_fromBattery) B.pre
  have hown : s.vm.findClass RX2 = some m.cls := findClass_of_methodNamed B.named
  have hlocks := B.notSynchronized
  subst hsz
  have hD := hD0.self (sz := s.heap.size)
  generalize hAe : va_A (MW b cI cZ cD mth msh mst msd mbi mpr mba mtn (nI n) mat mto mak mus mud mfs mfb mbo mso mpc mne) s.heap.size = A at hD ⊢
  have hA : ∀ q : Nat, s.heap.size ≤ q → A q := fun q h => by rw [← hAe]; exact Or.inr h
  have hS : va_S A s.heap s.heap [] := va_S.rf
  have hl := lv_entry ([.ref (b 0), .int x, .int q]) (n := 3) (Nat.le_of_ble_eq_true rfl)
  rw [lg_entry_eq]
  generalize (lg_sl ([.ref (b 0), .int x, .int q]) ++ List.replicate (3 - (lg_sl ([.ref (b 0), .int x, .int q])).length) Slot.unset).toArray = ls at hl ⊢
  have hl : lv_has ls 3 [(0, .ref (b 0)), (1, .int x), (2, .int q)] := hl
  have inX2 : ∀ w ∈ wsX20, w ∈ wsX2_fromBattery := by decide +kernel
  refine lv_aload_n hx hb dX2_fromBattery_0 rfl (lv_at hl 0 rfl) ?_
  refine lv_iload_n hx hb dX2_fromBattery_1 rfl (lv_at hl 1 rfl) ?_
  refine lv_iload_n hx hb dX2_fromBattery_2 rfl (lv_at hl 2 rfl) ?_
  have hFc := va_free (wc := MW b cI cZ cD mth msh mst msd mbi mpr mba mtn (nI n) mat mto mak mus mud mfs mfb mbo mso mpc mne) hD hS hA [0, 1, 2, 3, 4, 5, 6, 7, 8, 9, 10, 11, 12, 13, 14, 15] rfl
  refine va_calli (va_runV (As := [.int x, .int q]) (rest := []) ⟨hx, hb, hml, hown, hts⟩ (mX2_isAt l D cI cZ cD b _ mth msh mst msd mbi mpr mba mtn mat mto mak mus mud mfs mfb mbo mso mpc mne n hn x q) (cwV 2 hts gX2_fromBattery_X2_isAt rfl rfl rfl (by decide +kernel) ⟨Nat.le_of_ble_eq_true rfl, Nat.le_of_ble_eq_true rfl⟩) ⟨xk_blind, va_recv hK hP (ci := 2) (q0 := 0) rfl rfl, xk_pre hP hK hD⟩ rfl rfl hl.1 rfl (lv_room (Nat.le_of_ble_eq_true rfl)) dX2_fromBattery_3 ⟨Nat.le_of_ble_eq_true rfl, Nat.le_of_ble_eq_true rfl⟩) hS (fun q _ h => hFc q h) hFc (fun r u t H locs ht hvm hw hB hz1 hk1 hS => ?_)
  obtain ⟨hP, -, hD1⟩ := hB
  rw [ht] at hP
  have hD := hD1.weaken (B := A) (fun _ _ _ h => hFc _ h)
  have hP : va_P D vwCl (MW b cI cZ cD u msh mst msd mbi mpr mba mtn (nI n) mat mto mak mus mud mfs mfb mbo mso mpc mne) H := hP
  have hD : va_D A (MW b cI cZ cD u msh mst msd mbi mpr mba mtn (nI n) mat mto mak mus mud mfs mfb mbo mso mpc mne) := hD
  obtain ⟨rfl, hu⟩ := hw
  have hu2 : (u = 1 ∧ ¬ inR x 0 4) ∨ (u = 2 ∧ inR x 0 4 ∧ ¬ isQ n q) := by
    rcases hu with hu | hu
    · exact absurd hu.2 hbad
    · exact hu
  refine lv_if_eq (tgt := 22) hx hb dX2_fromBattery_6 (by decide) (fun c => ?_) (fun c => absurd (bI_0.mpr hbad) c)
  refine lv_dconst0 hx hb dX2_fromBattery_22 ?_
  exact W.dret hx hb hr (fun t ht hW => ⟨⟨_, u, rfl, hu2, by rw [ht]; exact hP, va_K.moved hW.alike hK, hD⟩, hS.F ht⟩) hS.2.2 dX2_fromBattery_23
set_option maxHeartbeats 4000000 in
set_option maxRecDepth 100000 in
theorem mX2_boughtV (l : Launch) (D : va_G) (cI cZ cD : ClassId) (b : Nat → Nat) (sz : Nat) (mth : Int32) (msh mst msd : Nat → Int32) (mbi : Nat → UInt64) (mpr mba : UInt64) (mtn : Int32) (mat mto mak : Nat → Int32) (mus mud mfs mfb mbo mso mpc mne : Nat → UInt64) (n o q : Nat) (hn : n ≤ 60) (ho : o < 5) (hq : q < n) : Met l yX2_bought wsX2_bought ({ frames := 3, cells := 0, slots := 0, locals := 65 } : Room) (va_Pc [.ref (b 0), .int (nI o), .int (nI q)] (XP D cI cZ cD (MW b cI cZ cD mth msh mst msd mbi mpr mba mtn (nI n) mat mto mak mus mud mfs mfb mbo mso mpc mne) sz)) (va_Qd (fun (r : UInt64) (u : Unit) => r = mbo (5 * q + o)) (fun (u : Unit) t => XB D cI cZ cD (MW b cI cZ cD 0 msh mst msd mbi mpr mba mtn (nI n) mat mto mak mus mud mfs mfb mbo mso mpc mne) (va_A (MW b cI cZ cD mth msh mst msd mbi mpr mba mtn (nI n) mat mto mak mus mud mfs mfb mbo mso mpc mne) sz) t) (va_A (MW b cI cZ cD mth msh mst msd mbi mpr mba mtn (nI n) mat mto mak mus mud mfs mfb mbo mso mpc mne) sz)) 0 0 (va_A (MW b cI cZ cD mth msh mst msd mbi mpr mba mtn (nI n) mat mto mak mus mud mfs mfb mbo mso mpc mne) sz) := by
  refine Met.ofW (cc := cX2_bought) (maxL := 3) (ret := (some .double)) (by decide +kernel) rfl ?_
  intro p e s m args below meth c s₁ B hml hv
  obtain ⟨rfl, hsz, hP, hK, hD0⟩ := hv
  have hx := B.exec
  have hb := B.bytes
  have hr := B.returns
  have hts := atoms_spec (ws := wsX2_bought) B.pre
  have hown : s.vm.findClass RX2 = some m.cls := findClass_of_methodNamed B.named
  have hlocks := B.notSynchronized
  subst hsz
  have hD := hD0.self (sz := s.heap.size)
  generalize hAe : va_A (MW b cI cZ cD mth msh mst msd mbi mpr mba mtn (nI n) mat mto mak mus mud mfs mfb mbo mso mpc mne) s.heap.size = A at hD ⊢
  have hA : ∀ q : Nat, s.heap.size ≤ q → A q := fun q h => by rw [← hAe]; exact Or.inr h
  have hS : va_S A s.heap s.heap [] := va_S.rf
  have hl := lv_entry ([.ref (b 0), .int (nI o), .int (nI q)]) (n := 3) (Nat.le_of_ble_eq_true rfl)
  rw [lg_entry_eq]
  generalize (lg_sl ([.ref (b 0), .int (nI o), .int (nI q)]) ++ List.replicate (3 - (lg_sl ([.ref (b 0), .int (nI o), .int (nI q)])).length) Slot.unset).toArray = ls at hl ⊢
  have hl : lv_has ls 3 [(0, .ref (b 0)), (1, .int (nI o)), (2, .int (nI q))] := hl
  have inX2 : ∀ w ∈ wsX20, w ∈ wsX2_bought := by decide +kernel
  have h1 : inR (nI o) 0 4 := nI_inR (n := 4) (by omega) (by decide)
  have h2 : isQ n (nI q) := ⟨nI_pos' (by omega), nI_lt hq (by omega)⟩
  refine lv_aload_n hx hb dX2_bought_0 rfl (lv_at hl 0 rfl) ?_
  refine lv_iload_n hx hb dX2_bought_1 rfl (lv_at hl 1 rfl) ?_
  refine lv_iload_n hx hb dX2_bought_2 rfl (lv_at hl 2 rfl) ?_
  have hFc := va_free (wc := MW b cI cZ cD mth msh mst msd mbi mpr mba mtn (nI n) mat mto mak mus mud mfs mfb mbo mso mpc mne) hD hS hA [0, 1, 2, 3, 4, 5, 6, 7, 8, 9, 10, 11, 12, 13, 14, 15] rfl
  refine va_calli (va_runV (As := [.int (nI o), .int (nI q)]) (rest := []) ⟨hx, hb, hml, hown, hts⟩ (mX2_isAt l D cI cZ cD b _ mth msh mst msd mbi mpr mba mtn mat mto mak mus mud mfs mfb mbo mso mpc mne n hn (nI o) (nI q)) (cwV 2 hts gX2_bought_X2_isAt rfl rfl rfl (by decide +kernel) ⟨Nat.le_of_ble_eq_true rfl, Nat.le_of_ble_eq_true rfl⟩) ⟨xk_blind, va_recv hK hP (ci := 2) (q0 := 0) rfl rfl, xk_pre hP hK hD⟩ rfl rfl hl.1 rfl (lv_room (Nat.le_of_ble_eq_true rfl)) dX2_bought_3 ⟨Nat.le_of_ble_eq_true rfl, Nat.le_of_ble_eq_true rfl⟩) hS (fun q _ h => hFc q h) hFc (fun r u t H locs ht hvm hw hB hz1 hk1 hS => ?_)
  obtain ⟨hP, -, hD1⟩ := hB
  rw [ht] at hP
  have hD := hD1.weaken (B := A) (fun _ _ _ h => hFc _ h)
  have hP : va_P D vwCl (MW b cI cZ cD u msh mst msd mbi mpr mba mtn (nI n) mat mto mak mus mud mfs mfb mbo mso mpc mne) H := hP
  have hD : va_D A (MW b cI cZ cD u msh mst msd mbi mpr mba mtn (nI n) mat mto mak mus mud mfs mfb mbo mso mpc mne) := hD
  obtain ⟨rfl, hu⟩ := hw
  obtain rfl : u = 0 := by
    rcases hu with hu | hu | hu
    · exact hu.1
    · exact absurd h1 hu.2
    · exact absurd h2 hu.2.2
  refine lv_if_eq (tgt := 22) hx hb dX2_bought_6 (by decide) (fun c => absurd ⟨h1, h2⟩ (bI_0.mp c)) (fun c => ?_)
  refine lv_aload_n hx hb dX2_bought_9 rfl (lv_at hl 0 rfl) ?_
  refine va_get (D := D) (ci := 2) (v := .ref (b 12)) (C := RX2) (T := TX2) (N := 20) hx hb hts inX2 hown hK hP 0 rfl rfl 16 (by decide) (hts (.fieldLink RX2 51 "GridCommonsModel" "bought" "[D") (by decide +kernel)) (fun _ h9 => h9) rfl dX2_bought_10 ?_
  refine lv_iconst (v := nI 5) hx hb dX2_bought_13 (by decide) ?_
  refine lv_iload_n hx hb dX2_bought_14 rfl (lv_at hl 2 rfl) ?_
  refine lv_imul hx hb dX2_bought_15 ?_
  refine lv_iload_n hx hb dX2_bought_16 rfl (lv_at hl 1 rfl) ?_
  refine lv_iadd hx hb dX2_bought_17 ?_
  refine xk_i (y := nI (5 * q + o)) (u5 q o) ?_
  refine xk_dald hx hb hK hP 12 2 rfl rfl (o := (5 * q + o)) (by omega) (by decide) dX2_bought_18 ?_
  refine lv_goto (tgt := 23) hx hb dX2_bought_19 (by decide) ?_
  exact W.dret hx hb hr (fun t ht hW => ⟨⟨_, (), rfl, rfl, by rw [ht]; exact hP, va_K.moved hW.alike hK, hD⟩, hS.F ht⟩) hS.2.2 dX2_bought_23
set_option maxHeartbeats 4000000 in
set_option maxRecDepth 100000 in
theorem mX2_boughtX (l : Launch) (D : va_G) (cI cZ cD : ClassId) (b : Nat → Nat) (sz : Nat) (mth : Int32) (msh mst msd : Nat → Int32) (mbi : Nat → UInt64) (mpr mba : UInt64) (mtn : Int32) (mat mto mak : Nat → Int32) (mus mud mfs mfb mbo mso mpc mne : Nat → UInt64) (n : Nat) (hn : n ≤ 60) (x q : Int32) (hbad : ¬ (inR x 0 4 ∧ isQ n q)) : Met l yX2_bought wsX2_bought ({ frames := 3, cells := 0, slots := 0, locals := 65 } : Room) (va_Pc [.ref (b 0), .int x, .int q] (XP D cI cZ cD (MW b cI cZ cD mth msh mst msd mbi mpr mba mtn (nI n) mat mto mak mus mud mfs mfb mbo mso mpc mne) sz)) (va_Qd (fun (r : UInt64) (u : Int32) => (u = 1 ∧ ¬ inR x 0 4) ∨ (u = 2 ∧ inR x 0 4 ∧ ¬ isQ n q)) (fun (u : Int32) t => XB D cI cZ cD (MW b cI cZ cD u msh mst msd mbi mpr mba mtn (nI n) mat mto mak mus mud mfs mfb mbo mso mpc mne) (va_A (MW b cI cZ cD mth msh mst msd mbi mpr mba mtn (nI n) mat mto mak mus mud mfs mfb mbo mso mpc mne) sz) t) (va_A (MW b cI cZ cD mth msh mst msd mbi mpr mba mtn (nI n) mat mto mak mus mud mfs mfb mbo mso mpc mne) sz)) 0 0 (va_A (MW b cI cZ cD mth msh mst msd mbi mpr mba mtn (nI n) mat mto mak mus mud mfs mfb mbo mso mpc mne) sz) := by
  refine Met.ofW (cc := cX2_bought) (maxL := 3) (ret := (some .double)) (by decide +kernel) rfl ?_
  intro p e s m args below meth c s₁ B hml hv
  obtain ⟨rfl, hsz, hP, hK, hD0⟩ := hv
  have hx := B.exec
  have hb := B.bytes
  have hr := B.returns
  have hts := atoms_spec (ws := wsX2_bought) B.pre
  have hown : s.vm.findClass RX2 = some m.cls := findClass_of_methodNamed B.named
  have hlocks := B.notSynchronized
  subst hsz
  have hD := hD0.self (sz := s.heap.size)
  generalize hAe : va_A (MW b cI cZ cD mth msh mst msd mbi mpr mba mtn (nI n) mat mto mak mus mud mfs mfb mbo mso mpc mne) s.heap.size = A at hD ⊢
  have hA : ∀ q : Nat, s.heap.size ≤ q → A q := fun q h => by rw [← hAe]; exact Or.inr h
  have hS : va_S A s.heap s.heap [] := va_S.rf
  have hl := lv_entry ([.ref (b 0), .int x, .int q]) (n := 3) (Nat.le_of_ble_eq_true rfl)
  rw [lg_entry_eq]
  generalize (lg_sl ([.ref (b 0), .int x, .int q]) ++ List.replicate (3 - (lg_sl ([.ref (b 0), .int x, .int q])).length) Slot.unset).toArray = ls at hl ⊢
  have hl : lv_has ls 3 [(0, .ref (b 0)), (1, .int x), (2, .int q)] := hl
  have inX2 : ∀ w ∈ wsX20, w ∈ wsX2_bought := by decide +kernel
  refine lv_aload_n hx hb dX2_bought_0 rfl (lv_at hl 0 rfl) ?_
  refine lv_iload_n hx hb dX2_bought_1 rfl (lv_at hl 1 rfl) ?_
  refine lv_iload_n hx hb dX2_bought_2 rfl (lv_at hl 2 rfl) ?_
  have hFc := va_free (wc := MW b cI cZ cD mth msh mst msd mbi mpr mba mtn (nI n) mat mto mak mus mud mfs mfb mbo mso mpc mne) hD hS hA [0, 1, 2, 3, 4, 5, 6, 7, 8, 9, 10, 11, 12, 13, 14, 15] rfl
  refine va_calli (va_runV (As := [.int x, .int q]) (rest := []) ⟨hx, hb, hml, hown, hts⟩ (mX2_isAt l D cI cZ cD b _ mth msh mst msd mbi mpr mba mtn mat mto mak mus mud mfs mfb mbo mso mpc mne n hn x q) (cwV 2 hts gX2_bought_X2_isAt rfl rfl rfl (by decide +kernel) ⟨Nat.le_of_ble_eq_true rfl, Nat.le_of_ble_eq_true rfl⟩) ⟨xk_blind, va_recv hK hP (ci := 2) (q0 := 0) rfl rfl, xk_pre hP hK hD⟩ rfl rfl hl.1 rfl (lv_room (Nat.le_of_ble_eq_true rfl)) dX2_bought_3 ⟨Nat.le_of_ble_eq_true rfl, Nat.le_of_ble_eq_true rfl⟩) hS (fun q _ h => hFc q h) hFc (fun r u t H locs ht hvm hw hB hz1 hk1 hS => ?_)
  obtain ⟨hP, -, hD1⟩ := hB
  rw [ht] at hP
  have hD := hD1.weaken (B := A) (fun _ _ _ h => hFc _ h)
  have hP : va_P D vwCl (MW b cI cZ cD u msh mst msd mbi mpr mba mtn (nI n) mat mto mak mus mud mfs mfb mbo mso mpc mne) H := hP
  have hD : va_D A (MW b cI cZ cD u msh mst msd mbi mpr mba mtn (nI n) mat mto mak mus mud mfs mfb mbo mso mpc mne) := hD
  obtain ⟨rfl, hu⟩ := hw
  have hu2 : (u = 1 ∧ ¬ inR x 0 4) ∨ (u = 2 ∧ inR x 0 4 ∧ ¬ isQ n q) := by
    rcases hu with hu | hu
    · exact absurd hu.2 hbad
    · exact hu
  refine lv_if_eq (tgt := 22) hx hb dX2_bought_6 (by decide) (fun c => ?_) (fun c => absurd (bI_0.mpr hbad) c)
  refine lv_dconst0 hx hb dX2_bought_22 ?_
  exact W.dret hx hb hr (fun t ht hW => ⟨⟨_, u, rfl, hu2, by rw [ht]; exact hP, va_K.moved hW.alike hK, hD⟩, hS.F ht⟩) hS.2.2 dX2_bought_23
set_option maxHeartbeats 4000000 in
set_option maxRecDepth 100000 in
theorem mX2_soldV (l : Launch) (D : va_G) (cI cZ cD : ClassId) (b : Nat → Nat) (sz : Nat) (mth : Int32) (msh mst msd : Nat → Int32) (mbi : Nat → UInt64) (mpr mba : UInt64) (mtn : Int32) (mat mto mak : Nat → Int32) (mus mud mfs mfb mbo mso mpc mne : Nat → UInt64) (n q : Nat) (hn : n ≤ 60) (hq : q < n) : Met l yX2_sold wsX2_sold ({ frames := 2, cells := 0, slots := 0, locals := 43 } : Room) (va_Pc [.ref (b 0), .int (nI q)] (XP D cI cZ cD (MW b cI cZ cD mth msh mst msd mbi mpr mba mtn (nI n) mat mto mak mus mud mfs mfb mbo mso mpc mne) sz)) (va_Qd (fun (r : UInt64) (u : Unit) => r = mso q) (fun (u : Unit) t => XB D cI cZ cD (MW b cI cZ cD 0 msh mst msd mbi mpr mba mtn (nI n) mat mto mak mus mud mfs mfb mbo mso mpc mne) (va_A (MW b cI cZ cD mth msh mst msd mbi mpr mba mtn (nI n) mat mto mak mus mud mfs mfb mbo mso mpc mne) sz) t) (va_A (MW b cI cZ cD mth msh mst msd mbi mpr mba mtn (nI n) mat mto mak mus mud mfs mfb mbo mso mpc mne) sz)) 0 0 (va_A (MW b cI cZ cD mth msh mst msd mbi mpr mba mtn (nI n) mat mto mak mus mud mfs mfb mbo mso mpc mne) sz) := by
  refine Met.ofW (cc := cX2_sold) (maxL := 2) (ret := (some .double)) (by decide +kernel) rfl ?_
  intro p e s m args below meth c s₁ B hml hv
  obtain ⟨rfl, hsz, hP, hK, hD0⟩ := hv
  have hx := B.exec
  have hb := B.bytes
  have hr := B.returns
  have hts := atoms_spec (ws := wsX2_sold) B.pre
  have hown : s.vm.findClass RX2 = some m.cls := findClass_of_methodNamed B.named
  have hlocks := B.notSynchronized
  subst hsz
  have hD := hD0.self (sz := s.heap.size)
  generalize hAe : va_A (MW b cI cZ cD mth msh mst msd mbi mpr mba mtn (nI n) mat mto mak mus mud mfs mfb mbo mso mpc mne) s.heap.size = A at hD ⊢
  have hA : ∀ q : Nat, s.heap.size ≤ q → A q := fun q h => by rw [← hAe]; exact Or.inr h
  have hS : va_S A s.heap s.heap [] := va_S.rf
  have hl := lv_entry ([.ref (b 0), .int (nI q)]) (n := 2) (Nat.le_of_ble_eq_true rfl)
  rw [lg_entry_eq]
  generalize (lg_sl ([.ref (b 0), .int (nI q)]) ++ List.replicate (2 - (lg_sl ([.ref (b 0), .int (nI q)])).length) Slot.unset).toArray = ls at hl ⊢
  have hl : lv_has ls 2 [(0, .ref (b 0)), (1, .int (nI q))] := hl
  have inX2 : ∀ w ∈ wsX20, w ∈ wsX2_sold := by decide +kernel
  refine lv_aload_n hx hb dX2_sold_0 rfl (lv_at hl 0 rfl) ?_
  refine lv_aload_n hx hb dX2_sold_1 rfl (lv_at hl 0 rfl) ?_
  refine lv_iload_n hx hb dX2_sold_2 rfl (lv_at hl 1 rfl) ?_
  have hFc := va_free (wc := MW b cI cZ cD mth msh mst msd mbi mpr mba mtn (nI n) mat mto mak mus mud mfs mfb mbo mso mpc mne) hD hS hA [0, 1, 2, 3, 4, 5, 6, 7, 8, 9, 10, 11, 12, 13, 14, 15] rfl
  refine va_calli (va_runV (As := [.int (nI q)]) (rest := [.ref (b 0)]) ⟨hx, hb, hml, hown, hts⟩ (mX2_isQuarter l D cI cZ cD b _ mth msh mst msd mbi mpr mba mtn mat mto mak mus mud mfs mfb mbo mso mpc mne n hn (nI q)) (cwV 1 hts gX2_sold_X2_isQuarter rfl rfl rfl (by decide +kernel) ⟨Nat.le_of_ble_eq_true rfl, Nat.le_of_ble_eq_true rfl⟩) ⟨xk_blind, va_recv hK hP (ci := 2) (q0 := 0) rfl rfl, xk_pre hP hK hD⟩ rfl rfl hl.1 rfl (lv_room (Nat.le_of_ble_eq_true rfl)) dX2_sold_3 ⟨Nat.le_of_ble_eq_true rfl, Nat.le_of_ble_eq_true rfl⟩) hS (fun q _ h => hFc q h) hFc (fun r u t H locs ht hvm hw hB hz1 hk1 hS => ?_)
  obtain ⟨hP, -, hD1⟩ := hB
  rw [ht] at hP
  have hD := hD1.weaken (B := A) (fun _ _ _ h => hFc _ h)
  have hP : va_P D vwCl (MW b cI cZ cD mth msh mst msd mbi mpr mba mtn (nI n) mat mto mak mus mud mfs mfb mbo mso mpc mne) H := hP
  have hD : va_D A (MW b cI cZ cD mth msh mst msd mbi mpr mba mtn (nI n) mat mto mak mus mud mfs mfb mbo mso mpc mne) := hD
  obtain rfl : r = 1 := hw.trans (bI_t (⟨nI_pos' (by omega), nI_lt hq (by omega)⟩))
  refine lv_if_eq (tgt := 13) hx hb dX2_sold_6 (by decide) (fun c => absurd c (by decide)) (fun c => ?_)
  refine lv_iconst (v := nI 0) hx hb dX2_sold_9 (by decide) ?_
  refine lv_goto (tgt := 14) hx hb dX2_sold_10 (by decide) ?_
  have hFc := va_free (wc := MW b cI cZ cD mth msh mst msd mbi mpr mba mtn (nI n) mat mto mak mus mud mfs mfb mbo mso mpc mne) hD hS hA [0, 1, 2, 3, 4, 5, 6, 7, 8, 9, 10, 11, 12, 13, 14, 15] rfl
  refine va_calli (va_runV (As := [.int (nI 0)]) (rest := []) ⟨hx, hb, hml, hown, hts⟩ (mX2_holds l D cI cZ cD b _ mth msh mst msd mbi mpr mba mtn (nI n) mat mto mak mus mud mfs mfb mbo mso mpc mne (0)) (cwV 1 hts gX2_sold_X2_holds rfl rfl rfl (by decide +kernel) ⟨Nat.le_of_ble_eq_true rfl, Nat.le_of_ble_eq_true rfl⟩) ⟨xk_blind, va_recv hK hP (ci := 2) (q0 := 0) rfl rfl, xk_pre hP hK hD⟩ rfl rfl hl.1 rfl (lv_room (Nat.le_of_ble_eq_true rfl)) dX2_sold_14 ⟨Nat.le_of_ble_eq_true rfl, Nat.le_of_ble_eq_true rfl⟩) hS (fun q _ h => hFc q h) hFc (fun r u t H locs ht hvm hw hB hz1 hk1 hS => ?_)
  obtain ⟨hP, -, hD1⟩ := hB
  rw [ht] at hP
  have hD := hD1.weaken (B := A) (fun _ _ _ h => hFc _ h)
  have hP : va_P D vwCl (MW b cI cZ cD 0 msh mst msd mbi mpr mba mtn (nI n) mat mto mak mus mud mfs mfb mbo mso mpc mne) H := hP
  have hD : va_D A (MW b cI cZ cD 0 msh mst msd mbi mpr mba mtn (nI n) mat mto mak mus mud mfs mfb mbo mso mpc mne) := hD
  obtain rfl : r = 1 := hw.trans (bI_t (by decide))
  refine lv_if_eq (tgt := 29) hx hb dX2_sold_17 (by decide) (fun c => absurd c (by decide)) (fun c => ?_)
  refine lv_aload_n hx hb dX2_sold_20 rfl (lv_at hl 0 rfl) ?_
  refine va_get (D := D) (ci := 2) (v := .ref (b 13)) (C := RX2) (T := TX2) (N := 20) hx hb hts inX2 hown hK hP 0 rfl rfl 17 (by decide) (hts (.fieldLink RX2 54 "GridCommonsModel" "sold" "[D") (by decide +kernel)) (fun _ h9 => h9) rfl dX2_sold_21 ?_
  refine lv_iload_n hx hb dX2_sold_24 rfl (lv_at hl 1 rfl) ?_
  refine xk_dald hx hb hK hP 13 2 rfl rfl (o := q) (by omega) (by decide) dX2_sold_25 ?_
  refine lv_goto (tgt := 30) hx hb dX2_sold_26 (by decide) ?_
  exact W.dret hx hb hr (fun t ht hW => ⟨⟨_, (), rfl, rfl, by rw [ht]; exact hP, va_K.moved hW.alike hK, hD⟩, hS.F ht⟩) hS.2.2 dX2_sold_30
set_option maxHeartbeats 4000000 in
set_option maxRecDepth 100000 in
theorem mX2_soldX (l : Launch) (D : va_G) (cI cZ cD : ClassId) (b : Nat → Nat) (sz : Nat) (mth : Int32) (msh mst msd : Nat → Int32) (mbi : Nat → UInt64) (mpr mba : UInt64) (mtn : Int32) (mat mto mak : Nat → Int32) (mus mud mfs mfb mbo mso mpc mne : Nat → UInt64) (n : Nat) (hn : n ≤ 60) (q : Int32) (hbad : ¬ isQ n q) : Met l yX2_sold wsX2_sold ({ frames := 2, cells := 0, slots := 0, locals := 43 } : Room) (va_Pc [.ref (b 0), .int q] (XP D cI cZ cD (MW b cI cZ cD mth msh mst msd mbi mpr mba mtn (nI n) mat mto mak mus mud mfs mfb mbo mso mpc mne) sz)) (va_Qd (fun (r : UInt64) (u : Unit) => True) (fun (u : Unit) t => XB D cI cZ cD (MW b cI cZ cD 1 msh mst msd mbi mpr mba mtn (nI n) mat mto mak mus mud mfs mfb mbo mso mpc mne) (va_A (MW b cI cZ cD mth msh mst msd mbi mpr mba mtn (nI n) mat mto mak mus mud mfs mfb mbo mso mpc mne) sz) t) (va_A (MW b cI cZ cD mth msh mst msd mbi mpr mba mtn (nI n) mat mto mak mus mud mfs mfb mbo mso mpc mne) sz)) 0 0 (va_A (MW b cI cZ cD mth msh mst msd mbi mpr mba mtn (nI n) mat mto mak mus mud mfs mfb mbo mso mpc mne) sz) := by
  refine Met.ofW (cc := cX2_sold) (maxL := 2) (ret := (some .double)) (by decide +kernel) rfl ?_
  intro p e s m args below meth c s₁ B hml hv
  obtain ⟨rfl, hsz, hP, hK, hD0⟩ := hv
  have hx := B.exec
  have hb := B.bytes
  have hr := B.returns
  have hts := atoms_spec (ws := wsX2_sold) B.pre
  have hown : s.vm.findClass RX2 = some m.cls := findClass_of_methodNamed B.named
  have hlocks := B.notSynchronized
  subst hsz
  have hD := hD0.self (sz := s.heap.size)
  generalize hAe : va_A (MW b cI cZ cD mth msh mst msd mbi mpr mba mtn (nI n) mat mto mak mus mud mfs mfb mbo mso mpc mne) s.heap.size = A at hD ⊢
  have hA : ∀ q : Nat, s.heap.size ≤ q → A q := fun q h => by rw [← hAe]; exact Or.inr h
  have hS : va_S A s.heap s.heap [] := va_S.rf
  have hl := lv_entry ([.ref (b 0), .int q]) (n := 2) (Nat.le_of_ble_eq_true rfl)
  rw [lg_entry_eq]
  generalize (lg_sl ([.ref (b 0), .int q]) ++ List.replicate (2 - (lg_sl ([.ref (b 0), .int q])).length) Slot.unset).toArray = ls at hl ⊢
  have hl : lv_has ls 2 [(0, .ref (b 0)), (1, .int q)] := hl
  have inX2 : ∀ w ∈ wsX20, w ∈ wsX2_sold := by decide +kernel
  refine lv_aload_n hx hb dX2_sold_0 rfl (lv_at hl 0 rfl) ?_
  refine lv_aload_n hx hb dX2_sold_1 rfl (lv_at hl 0 rfl) ?_
  refine lv_iload_n hx hb dX2_sold_2 rfl (lv_at hl 1 rfl) ?_
  have hFc := va_free (wc := MW b cI cZ cD mth msh mst msd mbi mpr mba mtn (nI n) mat mto mak mus mud mfs mfb mbo mso mpc mne) hD hS hA [0, 1, 2, 3, 4, 5, 6, 7, 8, 9, 10, 11, 12, 13, 14, 15] rfl
  refine va_calli (va_runV (As := [.int q]) (rest := [.ref (b 0)]) ⟨hx, hb, hml, hown, hts⟩ (mX2_isQuarter l D cI cZ cD b _ mth msh mst msd mbi mpr mba mtn mat mto mak mus mud mfs mfb mbo mso mpc mne n hn q) (cwV 1 hts gX2_sold_X2_isQuarter rfl rfl rfl (by decide +kernel) ⟨Nat.le_of_ble_eq_true rfl, Nat.le_of_ble_eq_true rfl⟩) ⟨xk_blind, va_recv hK hP (ci := 2) (q0 := 0) rfl rfl, xk_pre hP hK hD⟩ rfl rfl hl.1 rfl (lv_room (Nat.le_of_ble_eq_true rfl)) dX2_sold_3 ⟨Nat.le_of_ble_eq_true rfl, Nat.le_of_ble_eq_true rfl⟩) hS (fun q _ h => hFc q h) hFc (fun r u t H locs ht hvm hw hB hz1 hk1 hS => ?_)
  obtain ⟨hP, -, hD1⟩ := hB
  rw [ht] at hP
  have hD := hD1.weaken (B := A) (fun _ _ _ h => hFc _ h)
  have hP : va_P D vwCl (MW b cI cZ cD mth msh mst msd mbi mpr mba mtn (nI n) mat mto mak mus mud mfs mfb mbo mso mpc mne) H := hP
  have hD : va_D A (MW b cI cZ cD mth msh mst msd mbi mpr mba mtn (nI n) mat mto mak mus mud mfs mfb mbo mso mpc mne) := hD
  obtain rfl : r = 0 := hw.trans (bI_f (hbad))
  refine lv_if_eq (tgt := 13) hx hb dX2_sold_6 (by decide) (fun c => ?_) (fun c => absurd c (by decide))
  refine lv_iconst (v := nI 1) hx hb dX2_sold_13 (by decide) ?_
  have hFc := va_free (wc := MW b cI cZ cD mth msh mst msd mbi mpr mba mtn (nI n) mat mto mak mus mud mfs mfb mbo mso mpc mne) hD hS hA [0, 1, 2, 3, 4, 5, 6, 7, 8, 9, 10, 11, 12, 13, 14, 15] rfl
  refine va_calli (va_runV (As := [.int (nI 1)]) (rest := []) ⟨hx, hb, hml, hown, hts⟩ (mX2_holds l D cI cZ cD b _ mth msh mst msd mbi mpr mba mtn (nI n) mat mto mak mus mud mfs mfb mbo mso mpc mne (1)) (cwV 1 hts gX2_sold_X2_holds rfl rfl rfl (by decide +kernel) ⟨Nat.le_of_ble_eq_true rfl, Nat.le_of_ble_eq_true rfl⟩) ⟨xk_blind, va_recv hK hP (ci := 2) (q0 := 0) rfl rfl, xk_pre hP hK hD⟩ rfl rfl hl.1 rfl (lv_room (Nat.le_of_ble_eq_true rfl)) dX2_sold_14 ⟨Nat.le_of_ble_eq_true rfl, Nat.le_of_ble_eq_true rfl⟩) hS (fun q _ h => hFc q h) hFc (fun r u t H locs ht hvm hw hB hz1 hk1 hS => ?_)
  obtain ⟨hP, -, hD1⟩ := hB
  rw [ht] at hP
  have hD := hD1.weaken (B := A) (fun _ _ _ h => hFc _ h)
  have hP : va_P D vwCl (MW b cI cZ cD 1 msh mst msd mbi mpr mba mtn (nI n) mat mto mak mus mud mfs mfb mbo mso mpc mne) H := hP
  have hD : va_D A (MW b cI cZ cD 1 msh mst msd mbi mpr mba mtn (nI n) mat mto mak mus mud mfs mfb mbo mso mpc mne) := hD
  obtain rfl : r = 0 := hw.trans (bI_f (by decide))
  refine lv_if_eq (tgt := 29) hx hb dX2_sold_17 (by decide) (fun c => ?_) (fun c => absurd c (by decide))
  refine lv_dconst0 hx hb dX2_sold_29 ?_
  exact W.dret hx hb hr (fun t ht hW => ⟨⟨_, (), rfl, trivial, by rw [ht]; exact hP, va_K.moved hW.alike hK, hD⟩, hS.F ht⟩) hS.2.2 dX2_sold_30
set_option maxHeartbeats 4000000 in
set_option maxRecDepth 100000 in
theorem mX2_shedsV (l : Launch) (D : va_G) (cI cZ cD : ClassId) (b : Nat → Nat) (sz : Nat) (mth : Int32) (msh mst msd : Nat → Int32) (mbi : Nat → UInt64) (mpr mba : UInt64) (mtn mcl : Int32) (mat mto mak : Nat → Int32) (mus mud mfs mfb mbo mso mpc mne : Nat → UInt64) (o : Nat) (ho : o < 5) : Met l yX2_sheds wsX2_sheds ({ frames := 2, cells := 0, slots := 0, locals := 42 } : Room) (va_Pc [.ref (b 0), .int (nI o)] (XP D cI cZ cD (MW b cI cZ cD mth msh mst msd mbi mpr mba mtn mcl mat mto mak mus mud mfs mfb mbo mso mpc mne) sz)) (va_Qi (fun (r : Int32) (u : Unit) => r = msd o) (fun (u : Unit) t => XB D cI cZ cD (MW b cI cZ cD 0 msh mst msd mbi mpr mba mtn mcl mat mto mak mus mud mfs mfb mbo mso mpc mne) (va_A (MW b cI cZ cD mth msh mst msd mbi mpr mba mtn mcl mat mto mak mus mud mfs mfb mbo mso mpc mne) sz) t) (va_A (MW b cI cZ cD mth msh mst msd mbi mpr mba mtn mcl mat mto mak mus mud mfs mfb mbo mso mpc mne) sz)) 0 0 (va_A (MW b cI cZ cD mth msh mst msd mbi mpr mba mtn mcl mat mto mak mus mud mfs mfb mbo mso mpc mne) sz) := by
  refine Met.ofW (cc := cX2_sheds) (maxL := 2) (ret := (some .int)) (by decide +kernel) rfl ?_
  intro p e s m args below meth c s₁ B hml hv
  obtain ⟨rfl, hsz, hP, hK, hD0⟩ := hv
  have hx := B.exec
  have hb := B.bytes
  have hr := B.returns
  have hts := atoms_spec (ws := wsX2_sheds) B.pre
  have hown : s.vm.findClass RX2 = some m.cls := findClass_of_methodNamed B.named
  have hlocks := B.notSynchronized
  subst hsz
  have hD := hD0.self (sz := s.heap.size)
  generalize hAe : va_A (MW b cI cZ cD mth msh mst msd mbi mpr mba mtn mcl mat mto mak mus mud mfs mfb mbo mso mpc mne) s.heap.size = A at hD ⊢
  have hA : ∀ q : Nat, s.heap.size ≤ q → A q := fun q h => by rw [← hAe]; exact Or.inr h
  have hS : va_S A s.heap s.heap [] := va_S.rf
  have hl := lv_entry ([.ref (b 0), .int (nI o)]) (n := 2) (Nat.le_of_ble_eq_true rfl)
  rw [lg_entry_eq]
  generalize (lg_sl ([.ref (b 0), .int (nI o)]) ++ List.replicate (2 - (lg_sl ([.ref (b 0), .int (nI o)])).length) Slot.unset).toArray = ls at hl ⊢
  have hl : lv_has ls 2 [(0, .ref (b 0)), (1, .int (nI o))] := hl
  have inX2 : ∀ w ∈ wsX20, w ∈ wsX2_sheds := by decide +kernel
  refine lv_aload_n hx hb dX2_sheds_0 rfl (lv_at hl 0 rfl) ?_
  refine lv_iload_n hx hb dX2_sheds_1 rfl (lv_at hl 1 rfl) ?_
  refine vp_callSi (va_Run.run (va_runS (As := [.int (nI o)]) (rest := [.ref (b 0)]) ⟨hx, hb, hml, hown, hts⟩ (mX2_isOwner l (nI o)) (va_cwS 1 hts gX2_sheds_X2_isOwner rfl rfl rfl (by decide +kernel) ⟨Nat.le_of_ble_eq_true rfl, Nat.le_of_ble_eq_true rfl⟩) ⟨fun a U g mk q => q, fun U hU hW => ⟨rfl, trivial⟩⟩ rfl rfl hl.1 rfl (lv_room (Nat.le_of_ble_eq_true rfl)) dX2_sheds_2 ⟨Nat.le_of_ble_eq_true rfl, Nat.le_of_ble_eq_true rfl⟩)) (fun r hr1 => ?_)
  obtain rfl : r = 1 := hr1.trans (bI_t (nI_inR (n := 4) (by omega) (by decide)))
  refine lv_if_eq (tgt := 12) hx hb dX2_sheds_5 (by decide) (fun c => absurd c (by decide)) (fun c => ?_)
  refine lv_iconst (v := nI 0) hx hb dX2_sheds_8 (by decide) ?_
  refine lv_goto (tgt := 13) hx hb dX2_sheds_9 (by decide) ?_
  have hFc := va_free (wc := MW b cI cZ cD mth msh mst msd mbi mpr mba mtn mcl mat mto mak mus mud mfs mfb mbo mso mpc mne) hD hS hA [0, 1, 2, 3, 4, 5, 6, 7, 8, 9, 10, 11, 12, 13, 14, 15] rfl
  refine va_calli (va_runV (As := [.int (nI 0)]) (rest := []) ⟨hx, hb, hml, hown, hts⟩ (mX2_holds l D cI cZ cD b _ mth msh mst msd mbi mpr mba mtn mcl mat mto mak mus mud mfs mfb mbo mso mpc mne (0)) (cwV 1 hts gX2_sheds_X2_holds rfl rfl rfl (by decide +kernel) ⟨Nat.le_of_ble_eq_true rfl, Nat.le_of_ble_eq_true rfl⟩) ⟨xk_blind, va_recv hK hP (ci := 2) (q0 := 0) rfl rfl, xk_pre hP hK hD⟩ rfl rfl hl.1 rfl (lv_room (Nat.le_of_ble_eq_true rfl)) dX2_sheds_13 ⟨Nat.le_of_ble_eq_true rfl, Nat.le_of_ble_eq_true rfl⟩) hS (fun q _ h => hFc q h) hFc (fun r u t H locs ht hvm hw hB hz1 hk1 hS => ?_)
  obtain ⟨hP, -, hD1⟩ := hB
  rw [ht] at hP
  have hD := hD1.weaken (B := A) (fun _ _ _ h => hFc _ h)
  have hP : va_P D vwCl (MW b cI cZ cD 0 msh mst msd mbi mpr mba mtn mcl mat mto mak mus mud mfs mfb mbo mso mpc mne) H := hP
  have hD : va_D A (MW b cI cZ cD 0 msh mst msd mbi mpr mba mtn mcl mat mto mak mus mud mfs mfb mbo mso mpc mne) := hD
  obtain rfl : r = 1 := hw.trans (bI_t (by decide))
  refine lv_if_eq (tgt := 28) hx hb dX2_sheds_16 (by decide) (fun c => absurd c (by decide)) (fun c => ?_)
  refine lv_aload_n hx hb dX2_sheds_19 rfl (lv_at hl 0 rfl) ?_
  refine va_get (D := D) (ci := 2) (v := .ref (b 3)) (C := RX2) (T := TX2) (N := 20) hx hb hts inX2 hown hK hP 0 rfl rfl 3 (by decide) (hts (.fieldLink RX2 17 "GridCommonsModel" "sheds" "[I") (by decide +kernel)) (fun _ h9 => h9) rfl dX2_sheds_20 ?_
  refine lv_iload_n hx hb dX2_sheds_23 rfl (lv_at hl 1 rfl) ?_
  refine xk_iald hx hb hK hP 3 0 rfl rfl (o := o) (by omega) (by decide) dX2_sheds_24 ?_
  refine lv_goto (tgt := 29) hx hb dX2_sheds_25 (by decide) ?_
  exact W.iret hx hb hr (fun t ht hW => ⟨⟨_, (), rfl, rfl, by rw [ht]; exact hP, va_K.moved hW.alike hK, hD⟩, hS.F ht⟩) hS.2.2 dX2_sheds_29
set_option maxHeartbeats 4000000 in
set_option maxRecDepth 100000 in
theorem mX2_shedsX (l : Launch) (D : va_G) (cI cZ cD : ClassId) (b : Nat → Nat) (sz : Nat) (mth : Int32) (msh mst msd : Nat → Int32) (mbi : Nat → UInt64) (mpr mba : UInt64) (mtn mcl : Int32) (mat mto mak : Nat → Int32) (mus mud mfs mfb mbo mso mpc mne : Nat → UInt64) (x : Int32) (hbad : ¬ inR x 0 4) : Met l yX2_sheds wsX2_sheds ({ frames := 2, cells := 0, slots := 0, locals := 42 } : Room) (va_Pc [.ref (b 0), .int x] (XP D cI cZ cD (MW b cI cZ cD mth msh mst msd mbi mpr mba mtn mcl mat mto mak mus mud mfs mfb mbo mso mpc mne) sz)) (va_Qi (fun (r : Int32) (u : Unit) => True) (fun (u : Unit) t => XB D cI cZ cD (MW b cI cZ cD 1 msh mst msd mbi mpr mba mtn mcl mat mto mak mus mud mfs mfb mbo mso mpc mne) (va_A (MW b cI cZ cD mth msh mst msd mbi mpr mba mtn mcl mat mto mak mus mud mfs mfb mbo mso mpc mne) sz) t) (va_A (MW b cI cZ cD mth msh mst msd mbi mpr mba mtn mcl mat mto mak mus mud mfs mfb mbo mso mpc mne) sz)) 0 0 (va_A (MW b cI cZ cD mth msh mst msd mbi mpr mba mtn mcl mat mto mak mus mud mfs mfb mbo mso mpc mne) sz) := by
  refine Met.ofW (cc := cX2_sheds) (maxL := 2) (ret := (some .int)) (by decide +kernel) rfl ?_
  intro p e s m args below meth c s₁ B hml hv
  obtain ⟨rfl, hsz, hP, hK, hD0⟩ := hv
  have hx := B.exec
  have hb := B.bytes
  have hr := B.returns
  have hts := atoms_spec (ws := wsX2_sheds) B.pre
  have hown : s.vm.findClass RX2 = some m.cls := findClass_of_methodNamed B.named
  have hlocks := B.notSynchronized
  subst hsz
  have hD := hD0.self (sz := s.heap.size)
  generalize hAe : va_A (MW b cI cZ cD mth msh mst msd mbi mpr mba mtn mcl mat mto mak mus mud mfs mfb mbo mso mpc mne) s.heap.size = A at hD ⊢
  have hA : ∀ q : Nat, s.heap.size ≤ q → A q := fun q h => by rw [← hAe]; exact Or.inr h
  have hS : va_S A s.heap s.heap [] := va_S.rf
  have hl := lv_entry ([.ref (b 0), .int x]) (n := 2) (Nat.le_of_ble_eq_true rfl)
  rw [lg_entry_eq]
  generalize (lg_sl ([.ref (b 0), .int x]) ++ List.replicate (2 - (lg_sl ([.ref (b 0), .int x])).length) Slot.unset).toArray = ls at hl ⊢
  have hl : lv_has ls 2 [(0, .ref (b 0)), (1, .int x)] := hl
  have inX2 : ∀ w ∈ wsX20, w ∈ wsX2_sheds := by decide +kernel
  refine lv_aload_n hx hb dX2_sheds_0 rfl (lv_at hl 0 rfl) ?_
  refine lv_iload_n hx hb dX2_sheds_1 rfl (lv_at hl 1 rfl) ?_
  refine vp_callSi (va_Run.run (va_runS (As := [.int x]) (rest := [.ref (b 0)]) ⟨hx, hb, hml, hown, hts⟩ (mX2_isOwner l x) (va_cwS 1 hts gX2_sheds_X2_isOwner rfl rfl rfl (by decide +kernel) ⟨Nat.le_of_ble_eq_true rfl, Nat.le_of_ble_eq_true rfl⟩) ⟨fun a U g mk q => q, fun U hU hW => ⟨rfl, trivial⟩⟩ rfl rfl hl.1 rfl (lv_room (Nat.le_of_ble_eq_true rfl)) dX2_sheds_2 ⟨Nat.le_of_ble_eq_true rfl, Nat.le_of_ble_eq_true rfl⟩)) (fun r hr1 => ?_)
  obtain rfl : r = 0 := hr1.trans (bI_f (hbad))
  refine lv_if_eq (tgt := 12) hx hb dX2_sheds_5 (by decide) (fun c => ?_) (fun c => absurd c (by decide))
  refine lv_iconst (v := nI 1) hx hb dX2_sheds_12 (by decide) ?_
  have hFc := va_free (wc := MW b cI cZ cD mth msh mst msd mbi mpr mba mtn mcl mat mto mak mus mud mfs mfb mbo mso mpc mne) hD hS hA [0, 1, 2, 3, 4, 5, 6, 7, 8, 9, 10, 11, 12, 13, 14, 15] rfl
  refine va_calli (va_runV (As := [.int (nI 1)]) (rest := []) ⟨hx, hb, hml, hown, hts⟩ (mX2_holds l D cI cZ cD b _ mth msh mst msd mbi mpr mba mtn mcl mat mto mak mus mud mfs mfb mbo mso mpc mne (1)) (cwV 1 hts gX2_sheds_X2_holds rfl rfl rfl (by decide +kernel) ⟨Nat.le_of_ble_eq_true rfl, Nat.le_of_ble_eq_true rfl⟩) ⟨xk_blind, va_recv hK hP (ci := 2) (q0 := 0) rfl rfl, xk_pre hP hK hD⟩ rfl rfl hl.1 rfl (lv_room (Nat.le_of_ble_eq_true rfl)) dX2_sheds_13 ⟨Nat.le_of_ble_eq_true rfl, Nat.le_of_ble_eq_true rfl⟩) hS (fun q _ h => hFc q h) hFc (fun r u t H locs ht hvm hw hB hz1 hk1 hS => ?_)
  obtain ⟨hP, -, hD1⟩ := hB
  rw [ht] at hP
  have hD := hD1.weaken (B := A) (fun _ _ _ h => hFc _ h)
  have hP : va_P D vwCl (MW b cI cZ cD 1 msh mst msd mbi mpr mba mtn mcl mat mto mak mus mud mfs mfb mbo mso mpc mne) H := hP
  have hD : va_D A (MW b cI cZ cD 1 msh mst msd mbi mpr mba mtn mcl mat mto mak mus mud mfs mfb mbo mso mpc mne) := hD
  obtain rfl : r = 0 := hw.trans (bI_f (by decide))
  refine lv_if_eq (tgt := 28) hx hb dX2_sheds_16 (by decide) (fun c => ?_) (fun c => absurd c (by decide))
  refine lv_iconst (v := nI 0) hx hb dX2_sheds_28 (by decide) ?_
  exact W.iret hx hb hr (fun t ht hW => ⟨⟨_, (), rfl, trivial, by rw [ht]; exact hP, va_K.moved hW.alike hK, hD⟩, hS.F ht⟩) hS.2.2 dX2_sheds_29
set_option maxHeartbeats 4000000 in
set_option maxRecDepth 100000 in
theorem mX2_billV (l : Launch) (D : va_G) (cI cZ cD : ClassId) (b : Nat → Nat) (sz : Nat) (mth : Int32) (msh mst msd : Nat → Int32) (mbi : Nat → UInt64) (mpr mba : UInt64) (mtn mcl : Int32) (mat mto mak : Nat → Int32) (mus mud mfs mfb mbo mso mpc mne : Nat → UInt64) (o : Nat) (ho : o < 5) : Met l yX2_bill wsX2_bill ({ frames := 2, cells := 0, slots := 0, locals := 42 } : Room) (va_Pc [.ref (b 0), .int (nI o)] (XP D cI cZ cD (MW b cI cZ cD mth msh mst msd mbi mpr mba mtn mcl mat mto mak mus mud mfs mfb mbo mso mpc mne) sz)) (va_Qd (fun (r : UInt64) (u : Unit) => r = mbi o) (fun (u : Unit) t => XB D cI cZ cD (MW b cI cZ cD 0 msh mst msd mbi mpr mba mtn mcl mat mto mak mus mud mfs mfb mbo mso mpc mne) (va_A (MW b cI cZ cD mth msh mst msd mbi mpr mba mtn mcl mat mto mak mus mud mfs mfb mbo mso mpc mne) sz) t) (va_A (MW b cI cZ cD mth msh mst msd mbi mpr mba mtn mcl mat mto mak mus mud mfs mfb mbo mso mpc mne) sz)) 0 0 (va_A (MW b cI cZ cD mth msh mst msd mbi mpr mba mtn mcl mat mto mak mus mud mfs mfb mbo mso mpc mne) sz) := by
  refine Met.ofW (cc := cX2_bill) (maxL := 2) (ret := (some .double)) (by decide +kernel) rfl ?_
  intro p e s m args below meth c s₁ B hml hv
  obtain ⟨rfl, hsz, hP, hK, hD0⟩ := hv
  have hx := B.exec
  have hb := B.bytes
  have hr := B.returns
  have hts := atoms_spec (ws := wsX2_bill) B.pre
  have hown : s.vm.findClass RX2 = some m.cls := findClass_of_methodNamed B.named
  have hlocks := B.notSynchronized
  subst hsz
  have hD := hD0.self (sz := s.heap.size)
  generalize hAe : va_A (MW b cI cZ cD mth msh mst msd mbi mpr mba mtn mcl mat mto mak mus mud mfs mfb mbo mso mpc mne) s.heap.size = A at hD ⊢
  have hA : ∀ q : Nat, s.heap.size ≤ q → A q := fun q h => by rw [← hAe]; exact Or.inr h
  have hS : va_S A s.heap s.heap [] := va_S.rf
  have hl := lv_entry ([.ref (b 0), .int (nI o)]) (n := 2) (Nat.le_of_ble_eq_true rfl)
  rw [lg_entry_eq]
  generalize (lg_sl ([.ref (b 0), .int (nI o)]) ++ List.replicate (2 - (lg_sl ([.ref (b 0), .int (nI o)])).length) Slot.unset).toArray = ls at hl ⊢
  have hl : lv_has ls 2 [(0, .ref (b 0)), (1, .int (nI o))] := hl
  have inX2 : ∀ w ∈ wsX20, w ∈ wsX2_bill := by decide +kernel
  refine lv_aload_n hx hb dX2_bill_0 rfl (lv_at hl 0 rfl) ?_
  refine lv_iload_n hx hb dX2_bill_1 rfl (lv_at hl 1 rfl) ?_
  refine vp_callSi (va_Run.run (va_runS (As := [.int (nI o)]) (rest := [.ref (b 0)]) ⟨hx, hb, hml, hown, hts⟩ (mX2_isOwner l (nI o)) (va_cwS 1 hts gX2_bill_X2_isOwner rfl rfl rfl (by decide +kernel) ⟨Nat.le_of_ble_eq_true rfl, Nat.le_of_ble_eq_true rfl⟩) ⟨fun a U g mk q => q, fun U hU hW => ⟨rfl, trivial⟩⟩ rfl rfl hl.1 rfl (lv_room (Nat.le_of_ble_eq_true rfl)) dX2_bill_2 ⟨Nat.le_of_ble_eq_true rfl, Nat.le_of_ble_eq_true rfl⟩)) (fun r hr1 => ?_)
  obtain rfl : r = 1 := hr1.trans (bI_t (nI_inR (n := 4) (by omega) (by decide)))
  refine lv_if_eq (tgt := 12) hx hb dX2_bill_5 (by decide) (fun c => absurd c (by decide)) (fun c => ?_)
  refine lv_iconst (v := nI 0) hx hb dX2_bill_8 (by decide) ?_
  refine lv_goto (tgt := 13) hx hb dX2_bill_9 (by decide) ?_
  have hFc := va_free (wc := MW b cI cZ cD mth msh mst msd mbi mpr mba mtn mcl mat mto mak mus mud mfs mfb mbo mso mpc mne) hD hS hA [0, 1, 2, 3, 4, 5, 6, 7, 8, 9, 10, 11, 12, 13, 14, 15] rfl
  refine va_calli (va_runV (As := [.int (nI 0)]) (rest := []) ⟨hx, hb, hml, hown, hts⟩ (mX2_holds l D cI cZ cD b _ mth msh mst msd mbi mpr mba mtn mcl mat mto mak mus mud mfs mfb mbo mso mpc mne (0)) (cwV 1 hts gX2_bill_X2_holds rfl rfl rfl (by decide +kernel) ⟨Nat.le_of_ble_eq_true rfl, Nat.le_of_ble_eq_true rfl⟩) ⟨xk_blind, va_recv hK hP (ci := 2) (q0 := 0) rfl rfl, xk_pre hP hK hD⟩ rfl rfl hl.1 rfl (lv_room (Nat.le_of_ble_eq_true rfl)) dX2_bill_13 ⟨Nat.le_of_ble_eq_true rfl, Nat.le_of_ble_eq_true rfl⟩) hS (fun q _ h => hFc q h) hFc (fun r u t H locs ht hvm hw hB hz1 hk1 hS => ?_)
  obtain ⟨hP, -, hD1⟩ := hB
  rw [ht] at hP
  have hD := hD1.weaken (B := A) (fun _ _ _ h => hFc _ h)
  have hP : va_P D vwCl (MW b cI cZ cD 0 msh mst msd mbi mpr mba mtn mcl mat mto mak mus mud mfs mfb mbo mso mpc mne) H := hP
  have hD : va_D A (MW b cI cZ cD 0 msh mst msd mbi mpr mba mtn mcl mat mto mak mus mud mfs mfb mbo mso mpc mne) := hD
  obtain rfl : r = 1 := hw.trans (bI_t (by decide))
  refine lv_if_eq (tgt := 28) hx hb dX2_bill_16 (by decide) (fun c => absurd c (by decide)) (fun c => ?_)
  refine lv_aload_n hx hb dX2_bill_19 rfl (lv_at hl 0 rfl) ?_
  refine va_get (D := D) (ci := 2) (v := .ref (b 4)) (C := RX2) (T := TX2) (N := 20) hx hb hts inX2 hown hK hP 0 rfl rfl 4 (by decide) (hts (.fieldLink RX2 20 "GridCommonsModel" "bills" "[D") (by decide +kernel)) (fun _ h9 => h9) rfl dX2_bill_20 ?_
  refine lv_iload_n hx hb dX2_bill_23 rfl (lv_at hl 1 rfl) ?_
  refine xk_dald hx hb hK hP 4 2 rfl rfl (o := o) (by omega) (by decide) dX2_bill_24 ?_
  refine lv_goto (tgt := 29) hx hb dX2_bill_25 (by decide) ?_
  exact W.dret hx hb hr (fun t ht hW => ⟨⟨_, (), rfl, rfl, by rw [ht]; exact hP, va_K.moved hW.alike hK, hD⟩, hS.F ht⟩) hS.2.2 dX2_bill_29
set_option maxHeartbeats 4000000 in
set_option maxRecDepth 100000 in
theorem mX2_billX (l : Launch) (D : va_G) (cI cZ cD : ClassId) (b : Nat → Nat) (sz : Nat) (mth : Int32) (msh mst msd : Nat → Int32) (mbi : Nat → UInt64) (mpr mba : UInt64) (mtn mcl : Int32) (mat mto mak : Nat → Int32) (mus mud mfs mfb mbo mso mpc mne : Nat → UInt64) (x : Int32) (hbad : ¬ inR x 0 4) : Met l yX2_bill wsX2_bill ({ frames := 2, cells := 0, slots := 0, locals := 42 } : Room) (va_Pc [.ref (b 0), .int x] (XP D cI cZ cD (MW b cI cZ cD mth msh mst msd mbi mpr mba mtn mcl mat mto mak mus mud mfs mfb mbo mso mpc mne) sz)) (va_Qd (fun (r : UInt64) (u : Unit) => True) (fun (u : Unit) t => XB D cI cZ cD (MW b cI cZ cD 1 msh mst msd mbi mpr mba mtn mcl mat mto mak mus mud mfs mfb mbo mso mpc mne) (va_A (MW b cI cZ cD mth msh mst msd mbi mpr mba mtn mcl mat mto mak mus mud mfs mfb mbo mso mpc mne) sz) t) (va_A (MW b cI cZ cD mth msh mst msd mbi mpr mba mtn mcl mat mto mak mus mud mfs mfb mbo mso mpc mne) sz)) 0 0 (va_A (MW b cI cZ cD mth msh mst msd mbi mpr mba mtn mcl mat mto mak mus mud mfs mfb mbo mso mpc mne) sz) := by
  refine Met.ofW (cc := cX2_bill) (maxL := 2) (ret := (some .double)) (by decide +kernel) rfl ?_
  intro p e s m args below meth c s₁ B hml hv
  obtain ⟨rfl, hsz, hP, hK, hD0⟩ := hv
  have hx := B.exec
  have hb := B.bytes
  have hr := B.returns
  have hts := atoms_spec (ws := wsX2_bill) B.pre
  have hown : s.vm.findClass RX2 = some m.cls := findClass_of_methodNamed B.named
  have hlocks := B.notSynchronized
  subst hsz
  have hD := hD0.self (sz := s.heap.size)
  generalize hAe : va_A (MW b cI cZ cD mth msh mst msd mbi mpr mba mtn mcl mat mto mak mus mud mfs mfb mbo mso mpc mne) s.heap.size = A at hD ⊢
  have hA : ∀ q : Nat, s.heap.size ≤ q → A q := fun q h => by rw [← hAe]; exact Or.inr h
  have hS : va_S A s.heap s.heap [] := va_S.rf
  have hl := lv_entry ([.ref (b 0), .int x]) (n := 2) (Nat.le_of_ble_eq_true rfl)
  rw [lg_entry_eq]
  generalize (lg_sl ([.ref (b 0), .int x]) ++ List.replicate (2 - (lg_sl ([.ref (b 0), .int x])).length) Slot.unset).toArray = ls at hl ⊢
  have hl : lv_has ls 2 [(0, .ref (b 0)), (1, .int x)] := hl
  have inX2 : ∀ w ∈ wsX20, w ∈ wsX2_bill := by decide +kernel
  refine lv_aload_n hx hb dX2_bill_0 rfl (lv_at hl 0 rfl) ?_
  refine lv_iload_n hx hb dX2_bill_1 rfl (lv_at hl 1 rfl) ?_
  refine vp_callSi (va_Run.run (va_runS (As := [.int x]) (rest := [.ref (b 0)]) ⟨hx, hb, hml, hown, hts⟩ (mX2_isOwner l x) (va_cwS 1 hts gX2_bill_X2_isOwner rfl rfl rfl (by decide +kernel) ⟨Nat.le_of_ble_eq_true rfl, Nat.le_of_ble_eq_true rfl⟩) ⟨fun a U g mk q => q, fun U hU hW => ⟨rfl, trivial⟩⟩ rfl rfl hl.1 rfl (lv_room (Nat.le_of_ble_eq_true rfl)) dX2_bill_2 ⟨Nat.le_of_ble_eq_true rfl, Nat.le_of_ble_eq_true rfl⟩)) (fun r hr1 => ?_)
  obtain rfl : r = 0 := hr1.trans (bI_f (hbad))
  refine lv_if_eq (tgt := 12) hx hb dX2_bill_5 (by decide) (fun c => ?_) (fun c => absurd c (by decide))
  refine lv_iconst (v := nI 1) hx hb dX2_bill_12 (by decide) ?_
  have hFc := va_free (wc := MW b cI cZ cD mth msh mst msd mbi mpr mba mtn mcl mat mto mak mus mud mfs mfb mbo mso mpc mne) hD hS hA [0, 1, 2, 3, 4, 5, 6, 7, 8, 9, 10, 11, 12, 13, 14, 15] rfl
  refine va_calli (va_runV (As := [.int (nI 1)]) (rest := []) ⟨hx, hb, hml, hown, hts⟩ (mX2_holds l D cI cZ cD b _ mth msh mst msd mbi mpr mba mtn mcl mat mto mak mus mud mfs mfb mbo mso mpc mne (1)) (cwV 1 hts gX2_bill_X2_holds rfl rfl rfl (by decide +kernel) ⟨Nat.le_of_ble_eq_true rfl, Nat.le_of_ble_eq_true rfl⟩) ⟨xk_blind, va_recv hK hP (ci := 2) (q0 := 0) rfl rfl, xk_pre hP hK hD⟩ rfl rfl hl.1 rfl (lv_room (Nat.le_of_ble_eq_true rfl)) dX2_bill_13 ⟨Nat.le_of_ble_eq_true rfl, Nat.le_of_ble_eq_true rfl⟩) hS (fun q _ h => hFc q h) hFc (fun r u t H locs ht hvm hw hB hz1 hk1 hS => ?_)
  obtain ⟨hP, -, hD1⟩ := hB
  rw [ht] at hP
  have hD := hD1.weaken (B := A) (fun _ _ _ h => hFc _ h)
  have hP : va_P D vwCl (MW b cI cZ cD 1 msh mst msd mbi mpr mba mtn mcl mat mto mak mus mud mfs mfb mbo mso mpc mne) H := hP
  have hD : va_D A (MW b cI cZ cD 1 msh mst msd mbi mpr mba mtn mcl mat mto mak mus mud mfs mfb mbo mso mpc mne) := hD
  obtain rfl : r = 0 := hw.trans (bI_f (by decide))
  refine lv_if_eq (tgt := 28) hx hb dX2_bill_16 (by decide) (fun c => ?_) (fun c => absurd c (by decide))
  refine lv_dconst0 hx hb dX2_bill_28 ?_
  exact W.dret hx hb hr (fun t ht hW => ⟨⟨_, (), rfl, trivial, by rw [ht]; exact hP, va_K.moved hW.alike hK, hD⟩, hS.F ht⟩) hS.2.2 dX2_bill_29
set_option maxHeartbeats 4000000 in
set_option maxRecDepth 100000 in
theorem mX2_closed (l : Launch) (D : va_G) (cI cZ cD : ClassId) (b : Nat → Nat) (sz : Nat) (mth : Int32) (msh mst msd : Nat → Int32) (mbi : Nat → UInt64) (mpr mba : UInt64) (mtn mcl : Int32) (mat mto mak : Nat → Int32) (mus mud mfs mfb mbo mso mpc mne : Nat → UInt64)  : Met l yX2_closed wsX2_closed ({ frames := 0, cells := 0, slots := 0, locals := 0 } : Room) (va_Pc [.ref (b 0)] (XP D cI cZ cD (MW b cI cZ cD mth msh mst msd mbi mpr mba mtn mcl mat mto mak mus mud mfs mfb mbo mso mpc mne) sz)) (va_Qi (fun (r : Int32) (u : Unit) => r = mcl) (fun (u : Unit) t => XB D cI cZ cD (MW b cI cZ cD 0 msh mst msd mbi mpr mba mtn mcl mat mto mak mus mud mfs mfb mbo mso mpc mne) (va_A (MW b cI cZ cD mth msh mst msd mbi mpr mba mtn mcl mat mto mak mus mud mfs mfb mbo mso mpc mne) sz) t) (va_A (MW b cI cZ cD mth msh mst msd mbi mpr mba mtn mcl mat mto mak mus mud mfs mfb mbo mso mpc mne) sz)) 0 0 (va_A (MW b cI cZ cD mth msh mst msd mbi mpr mba mtn mcl mat mto mak mus mud mfs mfb mbo mso mpc mne) sz) := by
  refine Met.ofW (cc := cX2_closed) (maxL := 1) (ret := (some .int)) (by decide +kernel) rfl ?_
  intro p e s m args below meth c s₁ B hml hv
  obtain ⟨rfl, hsz, hP, hK, hD0⟩ := hv
  have hx := B.exec
  have hb := B.bytes
  have hr := B.returns
  have hts := atoms_spec (ws := wsX2_closed) B.pre
  have hown : s.vm.findClass RX2 = some m.cls := findClass_of_methodNamed B.named
  have hlocks := B.notSynchronized
  subst hsz
  have hD := hD0.self (sz := s.heap.size)
  generalize hAe : va_A (MW b cI cZ cD mth msh mst msd mbi mpr mba mtn mcl mat mto mak mus mud mfs mfb mbo mso mpc mne) s.heap.size = A at hD ⊢
  have hA : ∀ q : Nat, s.heap.size ≤ q → A q := fun q h => by rw [← hAe]; exact Or.inr h
  have hS : va_S A s.heap s.heap [] := va_S.rf
  have hl := lv_entry ([.ref (b 0)]) (n := 1) (Nat.le_of_ble_eq_true rfl)
  rw [lg_entry_eq]
  generalize (lg_sl ([.ref (b 0)]) ++ List.replicate (1 - (lg_sl ([.ref (b 0)])).length) Slot.unset).toArray = ls at hl ⊢
  have hl : lv_has ls 1 [(0, .ref (b 0))] := hl
  have inX2 : ∀ w ∈ wsX20, w ∈ wsX2_closed := by decide +kernel
  refine lv_aload_n hx hb dX2_closed_0 rfl (lv_at hl 0 rfl) ?_
  refine lv_iconst (v := nI 0) hx hb dX2_closed_1 (by decide) ?_
  refine va_put (D := D) (ci := 2) (v := .int (nI 0)) (ty := .int) (C := RX2) (T := TX2) (N := 20) hx hb hts inX2 tyX2 tyX2_ok nmX2 hown hK hP hD hS 0 rfl rfl 0 (by decide) (hts (.fieldLink RX2 63 "GridCommonsModel" "thrown" "I") (by decide +kernel)) (fun _ h9 => h9) rfl (by decide +kernel) rfl rfl (Nat.le_of_ble_eq_true rfl) dX2_closed_2 (fun H locs hP hD hS => ?_)
  have hP : va_P D vwCl (MW b cI cZ cD (nI 0) msh mst msd mbi mpr mba mtn mcl mat mto mak mus mud mfs mfb mbo mso mpc mne) H := hP
  have hD : va_D A (MW b cI cZ cD (nI 0) msh mst msd mbi mpr mba mtn mcl mat mto mak mus mud mfs mfb mbo mso mpc mne) := hD
  refine lv_aload_n hx hb dX2_closed_5 rfl (lv_at hl 0 rfl) ?_
  refine va_get (D := D) (ci := 2) (v := .int mcl) (C := RX2) (T := TX2) (N := 20) hx hb hts inX2 hown hK hP 0 rfl rfl 8 (by decide) (hts (.fieldLink RX2 84 "GridCommonsModel" "closed" "I") (by decide +kernel)) (fun _ h9 => h9) rfl dX2_closed_6 ?_
  exact W.iret hx hb hr (fun t ht hW => ⟨⟨_, (), rfl, rfl, by rw [ht]; exact hP, va_K.moved hW.alike hK, hD⟩, hS.F ht⟩) hS.2.2 dX2_closed_9
set_option maxHeartbeats 4000000 in
set_option maxRecDepth 100000 in
theorem mX2_battery (l : Launch) (D : va_G) (cI cZ cD : ClassId) (b : Nat → Nat) (sz : Nat) (mth : Int32) (msh mst msd : Nat → Int32) (mbi : Nat → UInt64) (mpr mba : UInt64) (mtn mcl : Int32) (mat mto mak : Nat → Int32) (mus mud mfs mfb mbo mso mpc mne : Nat → UInt64)  : Met l yX2_battery wsX2_battery ({ frames := 0, cells := 0, slots := 0, locals := 0 } : Room) (va_Pc [.ref (b 0)] (XP D cI cZ cD (MW b cI cZ cD mth msh mst msd mbi mpr mba mtn mcl mat mto mak mus mud mfs mfb mbo mso mpc mne) sz)) (va_Qd (fun (r : UInt64) (u : Unit) => r = mba) (fun (u : Unit) t => XB D cI cZ cD (MW b cI cZ cD 0 msh mst msd mbi mpr mba mtn mcl mat mto mak mus mud mfs mfb mbo mso mpc mne) (va_A (MW b cI cZ cD mth msh mst msd mbi mpr mba mtn mcl mat mto mak mus mud mfs mfb mbo mso mpc mne) sz) t) (va_A (MW b cI cZ cD mth msh mst msd mbi mpr mba mtn mcl mat mto mak mus mud mfs mfb mbo mso mpc mne) sz)) 0 0 (va_A (MW b cI cZ cD mth msh mst msd mbi mpr mba mtn mcl mat mto mak mus mud mfs mfb mbo mso mpc mne) sz) := by
  refine Met.ofW (cc := cX2_battery) (maxL := 1) (ret := (some .double)) (by decide +kernel) rfl ?_
  intro p e s m args below meth c s₁ B hml hv
  obtain ⟨rfl, hsz, hP, hK, hD0⟩ := hv
  have hx := B.exec
  have hb := B.bytes
  have hr := B.returns
  have hts := atoms_spec (ws := wsX2_battery) B.pre
  have hown : s.vm.findClass RX2 = some m.cls := findClass_of_methodNamed B.named
  have hlocks := B.notSynchronized
  subst hsz
  have hD := hD0.self (sz := s.heap.size)
  generalize hAe : va_A (MW b cI cZ cD mth msh mst msd mbi mpr mba mtn mcl mat mto mak mus mud mfs mfb mbo mso mpc mne) s.heap.size = A at hD ⊢
  have hA : ∀ q : Nat, s.heap.size ≤ q → A q := fun q h => by rw [← hAe]; exact Or.inr h
  have hS : va_S A s.heap s.heap [] := va_S.rf
  have hl := lv_entry ([.ref (b 0)]) (n := 1) (Nat.le_of_ble_eq_true rfl)
  rw [lg_entry_eq]
  generalize (lg_sl ([.ref (b 0)]) ++ List.replicate (1 - (lg_sl ([.ref (b 0)])).length) Slot.unset).toArray = ls at hl ⊢
  have hl : lv_has ls 1 [(0, .ref (b 0))] := hl
  have inX2 : ∀ w ∈ wsX20, w ∈ wsX2_battery := by decide +kernel
  refine lv_aload_n hx hb dX2_battery_0 rfl (lv_at hl 0 rfl) ?_
  refine lv_iconst (v := nI 0) hx hb dX2_battery_1 (by decide) ?_
  refine va_put (D := D) (ci := 2) (v := .int (nI 0)) (ty := .int) (C := RX2) (T := TX2) (N := 20) hx hb hts inX2 tyX2 tyX2_ok nmX2 hown hK hP hD hS 0 rfl rfl 0 (by decide) (hts (.fieldLink RX2 63 "GridCommonsModel" "thrown" "I") (by decide +kernel)) (fun _ h9 => h9) rfl (by decide +kernel) rfl rfl (Nat.le_of_ble_eq_true rfl) dX2_battery_2 (fun H locs hP hD hS => ?_)
  have hP : va_P D vwCl (MW b cI cZ cD (nI 0) msh mst msd mbi mpr mba mtn mcl mat mto mak mus mud mfs mfb mbo mso mpc mne) H := hP
  have hD : va_D A (MW b cI cZ cD (nI 0) msh mst msd mbi mpr mba mtn mcl mat mto mak mus mud mfs mfb mbo mso mpc mne) := hD
  refine lv_aload_n hx hb dX2_battery_5 rfl (lv_at hl 0 rfl) ?_
  refine va_get (D := D) (ci := 2) (v := .double mba) (C := RX2) (T := TX2) (N := 20) hx hb hts inX2 hown hK hP 0 rfl rfl 6 (by decide) (hts (.fieldLink RX2 105 "GridCommonsModel" "battery" "D") (by decide +kernel)) (fun _ h9 => h9) rfl dX2_battery_6 ?_
  exact W.dret hx hb hr (fun t ht hW => ⟨⟨_, (), rfl, rfl, by rw [ht]; exact hP, va_K.moved hW.alike hK, hD⟩, hS.F ht⟩) hS.2.2 dX2_battery_9
set_option maxHeartbeats 4000000 in
set_option maxRecDepth 100000 in
theorem mX2_turn (l : Launch) (D : va_G) (cI cZ cD : ClassId) (b : Nat → Nat) (sz : Nat) (mth : Int32) (msh mst msd : Nat → Int32) (mbi : Nat → UInt64) (mpr mba : UInt64) (mtn mcl : Int32) (mat mto mak : Nat → Int32) (mus mud mfs mfb mbo mso mpc mne : Nat → UInt64)  : Met l yX2_turn wsX2_turn ({ frames := 0, cells := 0, slots := 0, locals := 0 } : Room) (va_Pc [.ref (b 0)] (XP D cI cZ cD (MW b cI cZ cD mth msh mst msd mbi mpr mba mtn mcl mat mto mak mus mud mfs mfb mbo mso mpc mne) sz)) (va_Qi (fun (r : Int32) (u : Unit) => r = mtn) (fun (u : Unit) t => XB D cI cZ cD (MW b cI cZ cD 0 msh mst msd mbi mpr mba mtn mcl mat mto mak mus mud mfs mfb mbo mso mpc mne) (va_A (MW b cI cZ cD mth msh mst msd mbi mpr mba mtn mcl mat mto mak mus mud mfs mfb mbo mso mpc mne) sz) t) (va_A (MW b cI cZ cD mth msh mst msd mbi mpr mba mtn mcl mat mto mak mus mud mfs mfb mbo mso mpc mne) sz)) 0 0 (va_A (MW b cI cZ cD mth msh mst msd mbi mpr mba mtn mcl mat mto mak mus mud mfs mfb mbo mso mpc mne) sz) := by
  refine Met.ofW (cc := cX2_turn) (maxL := 1) (ret := (some .int)) (by decide +kernel) rfl ?_
  intro p e s m args below meth c s₁ B hml hv
  obtain ⟨rfl, hsz, hP, hK, hD0⟩ := hv
  have hx := B.exec
  have hb := B.bytes
  have hr := B.returns
  have hts := atoms_spec (ws := wsX2_turn) B.pre
  have hown : s.vm.findClass RX2 = some m.cls := findClass_of_methodNamed B.named
  have hlocks := B.notSynchronized
  subst hsz
  have hD := hD0.self (sz := s.heap.size)
  generalize hAe : va_A (MW b cI cZ cD mth msh mst msd mbi mpr mba mtn mcl mat mto mak mus mud mfs mfb mbo mso mpc mne) s.heap.size = A at hD ⊢
  have hA : ∀ q : Nat, s.heap.size ≤ q → A q := fun q h => by rw [← hAe]; exact Or.inr h
  have hS : va_S A s.heap s.heap [] := va_S.rf
  have hl := lv_entry ([.ref (b 0)]) (n := 1) (Nat.le_of_ble_eq_true rfl)
  rw [lg_entry_eq]
  generalize (lg_sl ([.ref (b 0)]) ++ List.replicate (1 - (lg_sl ([.ref (b 0)])).length) Slot.unset).toArray = ls at hl ⊢
  have hl : lv_has ls 1 [(0, .ref (b 0))] := hl
  have inX2 : ∀ w ∈ wsX20, w ∈ wsX2_turn := by decide +kernel
  refine lv_aload_n hx hb dX2_turn_0 rfl (lv_at hl 0 rfl) ?_
  refine lv_iconst (v := nI 0) hx hb dX2_turn_1 (by decide) ?_
  refine va_put (D := D) (ci := 2) (v := .int (nI 0)) (ty := .int) (C := RX2) (T := TX2) (N := 20) hx hb hts inX2 tyX2 tyX2_ok nmX2 hown hK hP hD hS 0 rfl rfl 0 (by decide) (hts (.fieldLink RX2 63 "GridCommonsModel" "thrown" "I") (by decide +kernel)) (fun _ h9 => h9) rfl (by decide +kernel) rfl rfl (Nat.le_of_ble_eq_true rfl) dX2_turn_2 (fun H locs hP hD hS => ?_)
  have hP : va_P D vwCl (MW b cI cZ cD (nI 0) msh mst msd mbi mpr mba mtn mcl mat mto mak mus mud mfs mfb mbo mso mpc mne) H := hP
  have hD : va_D A (MW b cI cZ cD (nI 0) msh mst msd mbi mpr mba mtn mcl mat mto mak mus mud mfs mfb mbo mso mpc mne) := hD
  refine lv_aload_n hx hb dX2_turn_5 rfl (lv_at hl 0 rfl) ?_
  refine va_get (D := D) (ci := 2) (v := .int mtn) (C := RX2) (T := TX2) (N := 20) hx hb hts inX2 hown hK hP 0 rfl rfl 7 (by decide) (hts (.fieldLink RX2 102 "GridCommonsModel" "turn" "I") (by decide +kernel)) (fun _ h9 => h9) rfl dX2_turn_6 ?_
  exact W.iret hx hb hr (fun t ht hW => ⟨⟨_, (), rfl, rfl, by rw [ht]; exact hP, va_K.moved hW.alike hK, hD⟩, hS.F ht⟩) hS.2.2 dX2_turn_9
