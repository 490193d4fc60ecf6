/-! GridCommons: the face, what writes -/
theorem nar01n {x : Int32} (h : x = 0 ∨ x = 1) : narrow .boolean (.int x) = .int x := by rcases h with rfl | rfl <;> rfl
def okS (sh : Nat → Int32) (x share : Int32) : Prop := sumI sh 5 - sh x.toNatClampNeg + share ≤ 4
def kn (lk : Nat → Int32) (x q : Int32) : Prop := ¬ lk (5 * q.toNatClampNeg + x.toNatClampNeg) = 0
theorem kn_nI {lk : Nat → Int32} {o q : Nat} (ho : o < 5) (hq : q < 60) : kn lk (nI o) (nI q) ↔ ¬ lk (5 * q + o) = 0 := by
  unfold kn
  rw [nI_clamp (by omega), nI_clamp (by omega)]
theorem okS_nI {sh : Nat → Int32} {o : Nat} {share : Int32} (ho : o < 5) : okS sh (nI o) share ↔ sumI sh 5 - sh o + share ≤ 4 := by
  unfold okS
  rw [nI_clamp (by omega)]
theorem pr_ok : ∀ k, k < 5 → vf_n64 (FP.ddiv (FP.i2d (nI k)) 4616189618054758400) := by
  intro k hk
  rcases (show k = 0 ∨ k = 1 ∨ k = 2 ∨ k = 3 ∨ k = 4 by omega) with rfl | rfl | rfl | rfl | rfl <;> (unfold vf_n64; decide +kernel)
/-! a quarter's closing, in one piece -/
def fS (sun : Int32) (sh : Nat → Int32) (V : Nat → Dm) (n : Nat) (F : Nat → Dm) : Nat → Dm := po (5 * n) 5 F (fun k => dAdd (F (5 * n + k)) (uS sun sh V k))
def fE (V : Nat → Dm) (L : Dm) (n : Nat) (F : Nat → Dm) : Nat → Dm := if noNeed V then F else po (5 * n) 5 F (fun k => dAdd (F (5 * n + k)) (gE V L k))
def gB (tr n : Nat) (V : Nat → Dm) (L S : Dm) (G : Nat → Dm) : (Nat → Dm) × Dm × (Nat → Dm) × Nat := if dCmp L dZ = some .eq then ((gbs tr (5 * n) V S G 5).1, (gbs tr (5 * n) V S G 5).2.1, (gbs tr (5 * n) V S G 5).2.2.1, tnx tr (gbs tr (5 * n) V S G 5).2.2.2) else (V, S, G, tr)
def kV2 (sun : Int32) (sh : Nat → Int32) (V : Nat → Dm) : Nat → Dm := fun k => dSub (V k) (uS sun sh V k)
def kL1 (sun : Int32) (sh : Nat → Int32) (V : Nat → Dm) : Dm := lS sun sh V (dI sun) 5
def kV3 (sun : Int32) (sh : Nat → Int32) (V : Nat → Dm) : Nat → Dm := nE (kV2 sun sh V) (kL1 sun sh V)
def kL2 (sun : Int32) (sh : Nat → Int32) (V : Nat → Dm) : Dm := lE (kV2 sun sh V) (kL1 sun sh V)
def kF (sun : Int32) (sh : Nat → Int32) (V : Nat → Dm) (n : Nat) (F : Nat → Dm) : Nat → Dm := fE (kV2 sun sh V) (kL1 sun sh V) n (fS sun sh V n F)
def kS (sun : Int32) (sh : Nat → Int32) (V : Nat → Dm) (S : Dm) : Dm := soN S (kL2 sun sh V)
def kZ (sun : Int32) (sh : Nat → Int32) (V : Nat → Dm) (S : Dm) (Z : Nat → Dm) (n : Nat) : Nat → Dm := va_up Z n (szN S (kL2 sun sh V))
def kB (sun : Int32) (sh : Nat → Int32) (V : Nat → Dm) (S : Dm) (G : Nat → Dm) (tr n : Nat) : (Nat → Dm) × Dm × (Nat → Dm) × Nat := gB tr n (kV3 sun sh V) (kL2 sun sh V) (kS sun sh V S) G
def kI (sun : Int32) (sh : Nat → Int32) (V : Nat → Dm) (S : Dm) (Z B : Nat → Dm) (P : Dm) (G : Nat → Dm) (tr n : Nat) : Nat → Dm := po 0 5 B (fun k => dSub (dAdd (B k) (dMul ((kB sun sh V S G tr n).1 k) P)) (dDiv (dMul (kZ sun sh V S Z n n) P) d10))
abbrev cT (sw ts it tu lk : Nat → Int32) (U : Nat → Dm) (n : Nat) : (Nat → Int32) × (Nat → Dm) := shd sw 5 ts (use0 it tu lk U n)
set_option maxHeartbeats 4000000 in
set_option maxRecDepth 100000 in
theorem mX1_sumOfSharesV (l : Launch) (D : va_G) (cI cZ cD : ClassId) (a : Nat → Nat) (sz : Nat) (sh sw ts : Nat → Int32) (bi : Nat → UInt64) (it tu : Nat → Int32) (ne : Nat → UInt64) (pr so lo : UInt64) (wt cn : Int32) (lp lz lu : Nat → UInt64) (lk : Nat → Int32) (ld lf lb lw : Nat → UInt64)  : Met l yX1_sumOfShares wsX1_sumOfShares ({ frames := 0, cells := 0, slots := 0, locals := 0 } : Room) (va_Pc [.ref (a 0)] (XP D cI cZ cD (XW a cI cZ cD sh sw ts bi it tu ne pr so lo wt cn lp lz lu lk ld lf lb lw) sz)) (vp_Si (fun r => r = sumI sh 5)) 0 0 (fun _ => False) := by
  refine Met.ofW (cc := cX1_sumOfShares) (maxL := 3) (ret := (some .int)) (by decide +kernel) rfl ?_
  intro p e s m args below meth c s₁ B hml hv
  obtain ⟨rfl, hsz, hP, hK, hD0⟩ := hv
  have hx := B.exec
  have hb := B.bytes
  have hr := B.returns
  have hts := atoms_spec (ws := wsX1_sumOfShares) B.pre
  have hown : s.vm.findClass RX1 = some m.cls := findClass_of_methodNamed B.named
  have hlocks := B.notSynchronized
  subst hsz
  have hD := hD0.self (sz := s.heap.size)
  generalize hAe : va_A (XW a cI cZ cD sh sw ts bi it tu ne pr so lo wt cn lp lz lu lk ld lf lb lw) s.heap.size = A at hD ⊢
  have hA : ∀ q : Nat, s.heap.size ≤ q → A q := fun q h => by rw [← hAe]; exact Or.inr h
  have hS : va_S A s.heap s.heap [] := va_S.rf
  have hl := lv_entry ([.ref (a 0)]) (n := 3) (Nat.le_of_ble_eq_true rfl)
  rw [lg_entry_eq]
  generalize (lg_sl ([.ref (a 0)]) ++ List.replicate (3 - (lg_sl ([.ref (a 0)])).length) Slot.unset).toArray = ls at hl ⊢
  have hl : lv_has ls 3 [(0, .ref (a 0))] := hl
  have inX1 : ∀ w ∈ wsX10, w ∈ wsX1_sumOfShares := by decide +kernel
  refine lv_iconst (v := nI 0) hx hb dX1_sumOfShares_0 (by decide) ?_
  refine lv_istore_n (lv' := [(1, .int (nI 0)), (0, .ref (a 0))]) hx hb dX1_sumOfShares_1 rfl hl (by decide) rfl (fun ls hl => ?_)
  refine lv_iconst (v := nI 0) hx hb dX1_sumOfShares_2 (by decide) ?_
  refine lv_istore_n (lv' := [(2, .int (nI 0)), (1, .int (nI 0)), (0, .ref (a 0))]) hx hb dX1_sumOfShares_3 rfl hl (by decide) rfl (fun ls hl => ?_)
  refine xk_loopP (fun i H locs ls => H = s.heap ∧ locs = [] ∧ lv_has ls 3 [(0, .ref (a 0)), (1, .int (sumI sh i)), (2, .int (nI i))]) 5 ?_ (i := 0) (Nat.zero_le _) ⟨rfl, rfl, lv_sub hl [2, 1, 0] rfl⟩
  intro i H locs ls hi hI next
  obtain ⟨rfl, rfl, hl⟩ := hI
  refine lv_iload_n hx hb dX1_sumOfShares_4 rfl (lv_at hl 2 rfl) ?_
  refine lv_iconst (v := nI 5) hx hb dX1_sumOfShares_5 (by decide) ?_
  refine lv_icmp_ge (tgt := 24) hx hb dX1_sumOfShares_6 (by decide) (fun c => ?_) (fun c => ?_)
  · skip
    obtain rfl := xk_ge hi (by decide) c
    refine lv_iload_n hx hb dX1_sumOfShares_24 rfl (lv_at hl 1 rfl) ?_
    exact W.iret hx hb hr (fun t ht hW => ⟨_, rfl, rfl, ht⟩) (fun q hq => absurd hq List.not_mem_nil) dX1_sumOfShares_25
  · skip
    have hlt := xk_nge hi (by decide) c
    refine lv_iload_n hx hb dX1_sumOfShares_9 rfl (lv_at hl 1 rfl) ?_
    refine lv_aload_n hx hb dX1_sumOfShares_10 rfl (lv_at hl 0 rfl) ?_
    refine va_get (D := D) (ci := 1) (v := .ref (a 1)) (C := RX1) (T := TX1) (N := 12) hx hb hts inX1 hown hK hP 0 rfl rfl 0 (by decide) (hts (.fieldLink RX1 9 "GridCommons" "shares" "[I") (by decide +kernel)) (fun _ h9 => h9) rfl dX1_sumOfShares_11 ?_
    refine lv_iload_n hx hb dX1_sumOfShares_14 rfl (lv_at hl 2 rfl) ?_
    refine xk_iald hx hb hK hP 1 0 rfl rfl (o := i) (by omega) (by decide) dX1_sumOfShares_15 ?_
    refine lv_iadd hx hb dX1_sumOfShares_16 ?_
    refine lv_istore_n (lv' := [(1, .int ((sumI sh i) + (sh i))), (0, .ref (a 0)), (2, .int (nI i))]) hx hb dX1_sumOfShares_17 rfl hl (by decide) rfl (fun ls hl => ?_)
    refine lv_iinc (v := nI (i + 1)) (lv' := [(2, .int (nI (i + 1))), (1, .int ((sumI sh i) + (sh i))), (0, .ref (a 0))]) hx hb dX1_sumOfShares_18 hl (k := 2) rfl (nI_1 i) (by decide) rfl (fun ls hl => ?_)
    refine lv_goto (tgt := 4) hx hb dX1_sumOfShares_21 (by decide) ?_
    exact next _ _ _ hlt ⟨rfl, rfl, lv_sub hl [2, 1, 0] rfl⟩
set_option maxHeartbeats 4000000 in
set_option maxRecDepth 100000 in
theorem mX1_setShareV (l : Launch) (D : va_G) (cI cZ cD : ClassId) (a : Nat → Nat) (sz : Nat) (sh sw ts : Nat → Int32) (bi : Nat → UInt64) (it tu : Nat → Int32) (ne : Nat → UInt64) (pr so lo : UInt64) (wt cn : Int32) (lp lz lu : Nat → UInt64) (lk : Nat → Int32) (ld lf lb lw : Nat → UInt64) (o : Nat) (share : Int32) (ho : o < 5) (hsh : inR share 0 4) (hok : okS sh (nI o) share) : Met l yX1_setShare wsX1_setShare ({ frames := 1, cells := 0, slots := 0, locals := 22 } : Room) (va_Pc [.ref (a 0), .int (nI o), .int share] (XP D cI cZ cD (XW a cI cZ cD sh sw ts bi it tu ne pr so lo wt cn lp lz lu lk ld lf lb lw) sz)) (va_Qi (fun (r : Int32) (u : Unit) => r = sh o) (fun (u : Unit) t => XB D cI cZ cD (XW a cI cZ cD (upd sh o share) sw ts bi it tu ne pr so lo wt cn lp lz lu lk ld lf lb lw) (va_A (XW a cI cZ cD sh sw ts bi it tu ne pr so lo wt cn lp lz lu lk ld lf lb lw) sz) t) (va_A (XW a cI cZ cD sh sw ts bi it tu ne pr so lo wt cn lp lz lu lk ld lf lb lw) sz)) 0 0 (va_A (XW a cI cZ cD sh sw ts bi it tu ne pr so lo wt cn lp lz lu lk ld lf lb lw) sz) := by
  refine Met.ofW (cc := cX1_setShare) (maxL := 4) (ret := (some .int)) (by decide +kernel) rfl ?_
  intro p e s m args below meth c s₁ B hml hv
  obtain ⟨rfl, hsz, hP, hK, hD0⟩ := hv
  have hx := B.exec
  have hb := B.bytes
  have hr := B.returns
  have hts := atoms_spec (ws := wsX1_setShare) B.pre
  have hown : s.vm.findClass RX1 = some m.cls := findClass_of_methodNamed B.named
  have hlocks := B.notSynchronized
  subst hsz
  have hD := hD0.self (sz := s.heap.size)
  generalize hAe : va_A (XW a cI cZ cD sh sw ts bi it tu ne pr so lo wt cn lp lz lu lk ld lf lb lw) s.heap.size = A at hD ⊢
  have hA : ∀ q : Nat, s.heap.size ≤ q → A q := fun q h => by rw [← hAe]; exact Or.inr h
  have hS : va_S A s.heap s.heap [] := va_S.rf
  have hl := lv_entry ([.ref (a 0), .int (nI o), .int share]) (n := 4) (Nat.le_of_ble_eq_true rfl)
  rw [lg_entry_eq]
  generalize (lg_sl ([.ref (a 0), .int (nI o), .int share]) ++ List.replicate (4 - (lg_sl ([.ref (a 0), .int (nI o), .int share])).length) Slot.unset).toArray = ls at hl ⊢
  have hl : lv_has ls 4 [(0, .ref (a 0)), (1, .int (nI o)), (2, .int share)] := hl
  have inX1 : ∀ w ∈ wsX10, w ∈ wsX1_setShare := by decide +kernel
  have hok := (okS_nI ho).mp hok
  refine lv_iload_n hx hb dX1_setShare_0 rfl (lv_at hl 1 rfl) ?_
  refine va_csv (va_Run.run (va_runS (As := [.int (nI o)]) (rest := []) ⟨hx, hb, hml, hown, hts⟩ (mX1_requireOwnerV l (nI o) (nI_inR (n := 4) (by omega) (by decide))) (va_cwS 1 hts gX1_setShare_X1_requireOwner rfl rfl rfl (by decide +kernel) ⟨Nat.le_of_ble_eq_true rfl, Nat.le_of_ble_eq_true rfl⟩) ⟨fun a U g mk q => q, fun U hU hW => ⟨rfl, trivial⟩⟩ rfl rfl hl.1 rfl (lv_room (Nat.le_of_ble_eq_true rfl)) dX1_setShare_1 ⟨Nat.le_of_ble_eq_true rfl, Nat.le_of_ble_eq_true rfl⟩)) (fun _ => ?_)
  refine lv_iload_n hx hb dX1_setShare_4 rfl (lv_at hl 2 rfl) ?_
  refine lv_iconst (v := nI 0) hx hb dX1_setShare_5 (by decide) ?_
  refine lv_iconst (v := nI 4) hx hb dX1_setShare_6 (by decide) ?_
  refine va_csv (va_Run.run (va_runS (As := [.int share, .int (nI 0), .int (nI 4)]) (rest := []) ⟨hx, hb, hml, hown, hts⟩ (mX1_requireWithinV l share (nI 0) (nI 4) hsh) (va_cwS 3 hts gX1_setShare_X1_requireWithin rfl rfl rfl (by decide +kernel) ⟨Nat.le_of_ble_eq_true rfl, Nat.le_of_ble_eq_true rfl⟩) ⟨fun a U g mk q => q, fun U hU hW => ⟨rfl, trivial⟩⟩ rfl rfl hl.1 rfl (lv_room (Nat.le_of_ble_eq_true rfl)) dX1_setShare_7 ⟨Nat.le_of_ble_eq_true rfl, Nat.le_of_ble_eq_true rfl⟩)) (fun _ => ?_)
  refine lv_aload_n hx hb dX1_setShare_10 rfl (lv_at hl 0 rfl) ?_
  refine va_get (D := D) (ci := 1) (v := .ref (a 1)) (C := RX1) (T := TX1) (N := 12) hx hb hts inX1 hown hK hP 0 rfl rfl 0 (by decide) (hts (.fieldLink RX1 9 "GridCommons" "shares" "[I") (by decide +kernel)) (fun _ h9 => h9) rfl dX1_setShare_11 ?_
  refine lv_iload_n hx hb dX1_setShare_14 rfl (lv_at hl 1 rfl) ?_
  refine xk_iald hx hb hK hP 1 0 rfl rfl (o := o) (by omega) (by decide) dX1_setShare_15 ?_
  refine lv_istore_n (lv' := [(3, .int (sh o)), (0, .ref (a 0)), (1, .int (nI o)), (2, .int share)]) hx hb dX1_setShare_16 rfl hl (by decide) rfl (fun ls hl => ?_)
  refine lv_aload_n hx hb dX1_setShare_17 rfl (lv_at hl 1 rfl) ?_
  refine vp_callSi (va_Run.run (va_runV (As := []) (rest := []) ⟨hx, hb, hml, hown, hts⟩ (mX1_sumOfSharesV l D cI cZ cD a _ sh sw ts bi it tu ne pr so lo wt cn lp lz lu lk ld lf lb lw) (cwV 0 hts gX1_setShare_X1_sumOfShares rfl rfl rfl (by decide +kernel) ⟨Nat.le_of_ble_eq_true rfl, Nat.le_of_ble_eq_true rfl⟩) ⟨xk_blind, va_recv hK hP (ci := 1) (q0 := 0) rfl rfl, xk_pre hP hK hD⟩ rfl rfl hl.1 rfl (lv_room (Nat.le_of_ble_eq_true rfl)) dX1_setShare_18 ⟨Nat.le_of_ble_eq_true rfl, Nat.le_of_ble_eq_true rfl⟩)) (fun r hr1 => ?_)
  subst hr1
  refine lv_iload_n hx hb dX1_setShare_21 rfl (lv_at hl 0 rfl) ?_
  refine lv_isub hx hb dX1_setShare_22 ?_
  refine lv_iload_n hx hb dX1_setShare_23 rfl (lv_at hl 3 rfl) ?_
  refine lv_iadd hx hb dX1_setShare_24 ?_
  refine lv_iconst (v := nI 4) hx hb dX1_setShare_25 (by decide) ?_
  refine lv_icmp_le (tgt := 39) hx hb dX1_setShare_26 (by decide) (fun c => ?_) (fun c => ?_)
  · skip
    refine lv_aload_n hx hb dX1_setShare_39 rfl (lv_at hl 1 rfl) ?_
    refine va_get (D := D) (ci := 1) (v := .ref (a 1)) (C := RX1) (T := TX1) (N := 12) hx hb hts inX1 hown hK hP 0 rfl rfl 0 (by decide) (hts (.fieldLink RX1 9 "GridCommons" "shares" "[I") (by decide +kernel)) (fun _ h9 => h9) rfl dX1_setShare_40 ?_
    refine lv_iload_n hx hb dX1_setShare_43 rfl (lv_at hl 2 rfl) ?_
    refine lv_iload_n hx hb dX1_setShare_44 rfl (lv_at hl 3 rfl) ?_
    refine xk_iast hx hb hK hP hD hS 1 0 rfl rfl (o := o) (by omega) (by decide) dX1_setShare_45 (fun H locs hP hD hS => ?_)
    have hP : va_P D vwCl (XW a cI cZ cD (upd sh o share) sw ts bi it tu ne pr so lo wt cn lp lz lu lk ld lf lb lw) H := hP
    have hD : va_D A (XW a cI cZ cD (upd sh o share) sw ts bi it tu ne pr so lo wt cn lp lz lu lk ld lf lb lw) := hD
    refine lv_iload_n hx hb dX1_setShare_46 rfl (lv_at hl 0 rfl) ?_
    exact W.iret hx hb hr (fun t ht hW => ⟨⟨_, (), rfl, rfl, by rw [ht]; exact hP, va_K.moved hW.alike hK, hD⟩, hS.F ht⟩) hS.2.2 dX1_setShare_47
  · skip
    exact absurd hok c
set_option maxHeartbeats 4000000 in
set_option maxRecDepth 100000 in
theorem mX1_setShareX (l : Launch) (hst : l.stackTraces = false) (D : va_G) (cI cZ cD : ClassId) (a : Nat → Nat) (Hp : Heap) (sh sw ts : Nat → Int32) (bi : Nat → UInt64) (it tu : Nat → Int32) (ne : Nat → UInt64) (pr so lo : UInt64) (wt cn : Int32) (lp lz lu : Nat → UInt64) (lk : Nat → Int32) (ld lf lb lw : Nat → UInt64) (x share : Int32) (hbad : ¬ (inR x 0 4 ∧ inR share 0 4 ∧ okS sh x share)) : vx_Met l yX1_setShare wsX1_setShare ({ frames := 7, cells := 1, slots := 6, locals := 104 } : Room) (va_Pc [.ref (a 0), .int x, .int share] (XQ D cI cZ cD (XW a cI cZ cD sh sw ts bi it tu ne pr so lo wt cn lp lz lu lk ld lf lb lw) Hp)) (va_Qi (fun _ (_ : Unit) => False) (fun _ _ => True) (fun q => Hp.size ≤ q)) (XE (fun E => (E = "java/lang/IllegalArgumentException" ∧ ¬ (inR x 0 4 ∧ inR share 0 4)) ∨ (E = "java/lang/IllegalStateException" ∧ inR x 0 4 ∧ inR share 0 4 ∧ ¬ okS sh x share)) Hp.size) 1 6 (fun q => Hp.size ≤ q) := by
  refine vx_ofW (cc := cX1_setShare) (maxL := 4) (ret := (some .int)) (by decide +kernel) rfl ?_
  intro p e s m args below meth c s₁ B hml htab hv
  obtain ⟨rfl, hsz, ⟨hP, hK, hD⟩, hE⟩ := hv
  have hx := B.exec
  have hb := B.bytes
  have hr := B.returns
  have hts := atoms_spec (ws := wsX1_setShare) B.pre
  have hown : s.vm.findClass RX1 = some m.cls := findClass_of_methodNamed B.named
  have hlocks := B.notSynchronized
  subst hsz
  have hA : ∀ q : Nat, s.heap.size ≤ q → (fun q => s.heap.size ≤ q) q := fun q h => h
  have hS : va_S (fun q => s.heap.size ≤ q) s.heap s.heap [] := va_S.rf
  have hl := lv_entry ([.ref (a 0), .int x, .int share]) (n := 4) (Nat.le_of_ble_eq_true rfl)
  rw [lg_entry_eq]
  generalize (lg_sl ([.ref (a 0), .int x, .int share]) ++ List.replicate (4 - (lg_sl ([.ref (a 0), .int x, .int share])).length) Slot.unset).toArray = ls at hl ⊢
  have hl : lv_has ls 4 [(0, .ref (a 0)), (1, .int x), (2, .int share)] := hl
  have inX1 : ∀ w ∈ wsX10, w ∈ wsX1_setShare := by decide +kernel
  refine lv_iload_n hx hb dX1_setShare_0 rfl (lv_at hl 1 rfl) ?_
  by_cases hin : inR x 0 4
  · skip
    refine va_csv (va_Run.run (va_runS (As := [.int x]) (rest := []) ⟨hx, hb, hml, hown, hts⟩ (mX1_requireOwnerV l x hin) (va_cwS 1 hts gX1_setShare_X1_requireOwner rfl rfl rfl (by decide +kernel) ⟨Nat.le_of_ble_eq_true rfl, Nat.le_of_ble_eq_true rfl⟩) ⟨fun a U g mk q => q, fun U hU hW => ⟨rfl, trivial⟩⟩ rfl rfl hl.1 rfl (lv_room (Nat.le_of_ble_eq_true rfl)) dX1_setShare_1 ⟨Nat.le_of_ble_eq_true rfl, Nat.le_of_ble_eq_true rfl⟩)) (fun _ => ?_)
    refine lv_iload_n hx hb dX1_setShare_4 rfl (lv_at hl 2 rfl) ?_
    refine lv_iconst (v := nI 0) hx hb dX1_setShare_5 (by decide) ?_
    refine lv_iconst (v := nI 4) hx hb dX1_setShare_6 (by decide) ?_
    by_cases hsh : inR share 0 4
    · skip
      refine va_csv (va_Run.run (va_runS (As := [.int share, .int (nI 0), .int (nI 4)]) (rest := []) ⟨hx, hb, hml, hown, hts⟩ (mX1_requireWithinV l share (nI 0) (nI 4) hsh) (va_cwS 3 hts gX1_setShare_X1_requireWithin rfl rfl rfl (by decide +kernel) ⟨Nat.le_of_ble_eq_true rfl, Nat.le_of_ble_eq_true rfl⟩) ⟨fun a U g mk q => q, fun U hU hW => ⟨rfl, trivial⟩⟩ rfl rfl hl.1 rfl (lv_room (Nat.le_of_ble_eq_true rfl)) dX1_setShare_7 ⟨Nat.le_of_ble_eq_true rfl, Nat.le_of_ble_eq_true rfl⟩)) (fun _ => ?_)
      obtain ⟨o, ho4, rfl⟩ := inR_nI (n := 4) (by decide) hin
      have ho : o < 5 := by omega
      refine lv_aload_n hx hb dX1_setShare_10 rfl (lv_at hl 0 rfl) ?_
      refine va_get (D := D) (ci := 1) (v := .ref (a 1)) (C := RX1) (T := TX1) (N := 12) hx hb hts inX1 hown hK hP 0 rfl rfl 0 (by decide) (hts (.fieldLink RX1 9 "GridCommons" "shares" "[I") (by decide +kernel)) (fun _ h9 => h9) rfl dX1_setShare_11 ?_
      refine lv_iload_n hx hb dX1_setShare_14 rfl (lv_at hl 1 rfl) ?_
      refine xk_iald hx hb hK hP 1 0 rfl rfl (o := o) (by omega) (by decide) dX1_setShare_15 ?_
      refine lv_istore_n (lv' := [(3, .int (sh o)), (0, .ref (a 0)), (1, .int (nI o)), (2, .int share)]) hx hb dX1_setShare_16 rfl hl (by decide) rfl (fun ls hl => ?_)
      refine lv_aload_n hx hb dX1_setShare_17 rfl (lv_at hl 1 rfl) ?_
      refine vp_callSi (va_Run.run (va_runV (As := []) (rest := []) ⟨hx, hb, hml, hown, hts⟩ (mX1_sumOfSharesV l D cI cZ cD a _ sh sw ts bi it tu ne pr so lo wt cn lp lz lu lk ld lf lb lw) (cwV 0 hts gX1_setShare_X1_sumOfShares rfl rfl rfl (by decide +kernel) ⟨Nat.le_of_ble_eq_true rfl, Nat.le_of_ble_eq_true rfl⟩) ⟨xk_blind, va_recv hK hP (ci := 1) (q0 := 0) rfl rfl, xk_pre hP hK hD⟩ rfl rfl hl.1 rfl (lv_room (Nat.le_of_ble_eq_true rfl)) dX1_setShare_18 ⟨Nat.le_of_ble_eq_true rfl, Nat.le_of_ble_eq_true rfl⟩)) (fun r hr1 => ?_)
      subst hr1
      refine lv_iload_n hx hb dX1_setShare_21 rfl (lv_at hl 0 rfl) ?_
      refine lv_isub hx hb dX1_setShare_22 ?_
      refine lv_iload_n hx hb dX1_setShare_23 rfl (lv_at hl 3 rfl) ?_
      refine lv_iadd hx hb dX1_setShare_24 ?_
      refine lv_iconst (v := nI 4) hx hb dX1_setShare_25 (by decide) ?_
      refine lv_icmp_le (tgt := 39) hx hb dX1_setShare_26 (by decide) (fun c => ?_) (fun c => ?_)
      · skip
        exact absurd ⟨hin, hsh, (okS_nI ho).mpr c⟩ hbad
      · skip
        obtain ⟨sa, hstr⟩ := hE.2.2.2 (70, "all shares together would be more than 4") (by decide)
        have hat0 : ∀ w ∈ (vx_atS RX1 72 "java/lang/IllegalStateException" ["java/lang/RuntimeException", "java/lang/Exception"]).filter goodWord, w ∈ wsX1_setShare := by decide +kernel
        exact vx_throwS (text := "all shares together would be more than 4") (names := ["java/lang/RuntimeException", "java/lang/Exception"]) hx hb hst hown (by decide +kernel) (by decide +kernel) (hts (.classLink RX1 68 "java/lang/IllegalStateException") (by decide +kernel)) (hts (.initialized "java/lang/IllegalStateException") (by decide +kernel)) hstr (vx_hat (B := exW) (fun w h => hts w (hat0 w h)) (by decide +kernel) hE.words) (by decide +kernel) hE.1 hE.2.1 hS (hl.1.trans hml.symm) dX1_setShare_29 dX1_setShare_32 dX1_setShare_33 dX1_setShare_35 dX1_setShare_38 (fun x h => (htab x h).elim) (Nat.le_of_ble_eq_true rfl) (Nat.le_of_ble_eq_true rfl) (Nat.le_of_ble_eq_true rfl) (Nat.le_of_ble_eq_true rfl) hlocks (fun t ht hz hk => ⟨(), trivial, Or.inr ⟨rfl, hin, hsh, fun z => c ((okS_nI ho).mp z)⟩, hz, fun q h1 _ => hk q h1⟩) hS.2.2 (Nat.le_refl _) (Nat.le_refl _)
    · skip
      exact vx_callv (vx_runS (As := [.int share, .int (nI 0), .int (nI 4)]) (rest := []) ⟨hx, hb, hml, hown, hts⟩ (mX1_requireWithin l hst s.heap share (nI 0) (nI 4)) (va_cwS 3 hts gX1_setShare_X1_requireWithin rfl rfl rfl (by decide +kernel) ⟨Nat.le_of_ble_eq_true rfl, Nat.le_of_ble_eq_true rfl⟩) ⟨xh_blind, xh_pre hE hS hA⟩ rfl rfl hl.1 rfl (lv_room (Nat.le_of_ble_eq_true rfl)) dX1_setShare_7 ⟨Nat.le_of_ble_eq_true rfl, Nat.le_of_ble_eq_true rfl⟩) hS (fun q h1 h2 => absurd h2 (Nat.not_le.mpr h1)) (fun q h => hA q (Nat.le_trans hS.1 h)) (fun q h1 h2 => absurd h2 (Nat.not_le.mpr h1)) (fun E ce q9 u9 t9 H9 locs9 ht9 hvm9 hpx9 hB9 hz9 hk9 hS9 hce9 hcv9 hcl9 => vx_out (fun x h => (htab x h).elim) hlocks hce9 hcv9 hcl9 (fun t8 ht8 hvm8 => ⟨(), trivial, Or.inl ⟨hB9.1, fun z => hB9.2 z.2⟩, by rw [ht8]; exact hz9, fun q h1 h2 => by rw [ht8]; exact hk9 q h1 h2⟩) hS9.2.2 (Nat.le_refl _) (Nat.le_refl _)) (fun u t H1 locs1 ht hvm hw hB hz1 hk1 hS1 => absurd hw hsh)
  · skip
    exact vx_callv (vx_runS (As := [.int x]) (rest := []) ⟨hx, hb, hml, hown, hts⟩ (mX1_requireOwner l hst s.heap x) (va_cwS 1 hts gX1_setShare_X1_requireOwner rfl rfl rfl (by decide +kernel) ⟨Nat.le_of_ble_eq_true rfl, Nat.le_of_ble_eq_true rfl⟩) ⟨xh_blind, xh_pre hE hS hA⟩ rfl rfl hl.1 rfl (lv_room (Nat.le_of_ble_eq_true rfl)) dX1_setShare_1 ⟨Nat.le_of_ble_eq_true rfl, Nat.le_of_ble_eq_true rfl⟩) hS (fun q h1 h2 => absurd h2 (Nat.not_le.mpr h1)) (fun q h => hA q (Nat.le_trans hS.1 h)) (fun q h1 h2 => absurd h2 (Nat.not_le.mpr h1)) (fun E ce q9 u9 t9 H9 locs9 ht9 hvm9 hpx9 hB9 hz9 hk9 hS9 hce9 hcv9 hcl9 => vx_out (fun x h => (htab x h).elim) hlocks hce9 hcv9 hcl9 (fun t8 ht8 hvm8 => ⟨(), trivial, Or.inl ⟨hB9.1, fun z => hB9.2 z.1⟩, by rw [ht8]; exact hz9, fun q h1 h2 => by rw [ht8]; exact hk9 q h1 h2⟩) hS9.2.2 (Nat.le_refl _) (Nat.le_refl _)) (fun u t H1 locs1 ht hvm hw hB hz1 hk1 hS1 => absurd hw hin)
set_option maxHeartbeats 4000000 in
set_option maxRecDepth 100000 in
theorem mX1_setSwitchV (l : Launch) (D : va_G) (cI cZ cD : ClassId) (a : Nat → Nat) (sz : Nat) (sh sw ts : Nat → Int32) (bi : Nat → UInt64) (it tu : Nat → Int32) (ne : Nat → UInt64) (pr so lo : UInt64) (wt cn : Int32) (lp lz lu : Nat → UInt64) (lk : Nat → Int32) (ld lf lb lw : Nat → UInt64) (o : Nat) (can : Int32) (ho : o < 5) (hcan : can = 0 ∨ can = 1) (hsw : ∀ j, sw j = 0 ∨ sw j = 1) : Met l yX1_setSwitch wsX1_setSwitch ({ frames := 1, cells := 0, slots := 0, locals := 20 } : Room) (va_Pc [.ref (a 0), .int (nI o), .int can] (XP D cI cZ cD (XW a cI cZ cD sh sw ts bi it tu ne pr so lo wt cn lp lz lu lk ld lf lb lw) sz)) (va_Qi (fun (r : Int32) (u : Unit) => r = sw o) (fun (u : Unit) t => XB D cI cZ cD (XW a cI cZ cD sh (upd sw o can) ts bi it tu ne pr so lo wt cn lp lz lu lk ld lf lb lw) (va_A (XW a cI cZ cD sh sw ts bi it tu ne pr so lo wt cn lp lz lu lk ld lf lb lw) sz) t) (va_A (XW a cI cZ cD sh sw ts bi it tu ne pr so lo wt cn lp lz lu lk ld lf lb lw) sz)) 0 0 (va_A (XW a cI cZ cD sh sw ts bi it tu ne pr so lo wt cn lp lz lu lk ld lf lb lw) sz) := by
  refine Met.ofW (cc := cX1_setSwitch) (maxL := 4) (ret := (some .boolean)) (by decide +kernel) rfl ?_
  intro p e s m args below meth c s₁ B hml hv
  obtain ⟨rfl, hsz, hP, hK, hD0⟩ := hv
  have hx := B.exec
  have hb := B.bytes
  have hr := B.returns
  have hts := atoms_spec (ws := wsX1_setSwitch) B.pre
  have hown : s.vm.findClass RX1 = some m.cls := findClass_of_methodNamed B.named
  have hlocks := B.notSynchronized
  subst hsz
  have hD := hD0.self (sz := s.heap.size)
  generalize hAe : va_A (XW a cI cZ cD sh sw ts bi it tu ne pr so lo wt cn lp lz lu lk ld lf lb lw) s.heap.size = A at hD ⊢
  have hA : ∀ q : Nat, s.heap.size ≤ q → A q := fun q h => by rw [← hAe]; exact Or.inr h
  have hS : va_S A s.heap s.heap [] := va_S.rf
  have hl := lv_entry ([.ref (a 0), .int (nI o), .int can]) (n := 4) (Nat.le_of_ble_eq_true rfl)
  rw [lg_entry_eq]
  generalize (lg_sl ([.ref (a 0), .int (nI o), .int can]) ++ List.replicate (4 - (lg_sl ([.ref (a 0), .int (nI o), .int can])).length) Slot.unset).toArray = ls at hl ⊢
  have hl : lv_has ls 4 [(0, .ref (a 0)), (1, .int (nI o)), (2, .int can)] := hl
  have inX1 : ∀ w ∈ wsX10, w ∈ wsX1_setSwitch := by decide +kernel
  refine lv_iload_n hx hb dX1_setSwitch_0 rfl (lv_at hl 1 rfl) ?_
  refine va_csv (va_Run.run (va_runS (As := [.int (nI o)]) (rest := []) ⟨hx, hb, hml, hown, hts⟩ (mX1_requireOwnerV l (nI o) (nI_inR (n := 4) (by omega) (by decide))) (va_cwS 1 hts gX1_setSwitch_X1_requireOwner rfl rfl rfl (by decide +kernel) ⟨Nat.le_of_ble_eq_true rfl, Nat.le_of_ble_eq_true rfl⟩) ⟨fun a U g mk q => q, fun U hU hW => ⟨rfl, trivial⟩⟩ rfl rfl hl.1 rfl (lv_room (Nat.le_of_ble_eq_true rfl)) dX1_setSwitch_1 ⟨Nat.le_of_ble_eq_true rfl, Nat.le_of_ble_eq_true rfl⟩)) (fun _ => ?_)
  refine lv_aload_n hx hb dX1_setSwitch_4 rfl (lv_at hl 0 rfl) ?_
  refine va_get (D := D) (ci := 1) (v := .ref (a 2)) (C := RX1) (T := TX1) (N := 12) hx hb hts inX1 hown hK hP 0 rfl rfl 1 (by decide) (hts (.fieldLink RX1 13 "GridCommons" "switches" "[Z") (by decide +kernel)) (fun _ h9 => h9) rfl dX1_setSwitch_5 ?_
  refine lv_iload_n hx hb dX1_setSwitch_8 rfl (lv_at hl 1 rfl) ?_
  refine xk_zald hx hb hK hP 2 1 rfl rfl (o := o) (by omega) (by decide) dX1_setSwitch_9 ?_
  refine lv_istore_n (lv' := [(3, .int (sw o)), (0, .ref (a 0)), (1, .int (nI o)), (2, .int can)]) hx hb dX1_setSwitch_10 rfl hl (by decide) rfl (fun ls hl => ?_)
  refine lv_aload_n hx hb dX1_setSwitch_11 rfl (lv_at hl 1 rfl) ?_
  refine va_get (D := D) (ci := 1) (v := .ref (a 2)) (C := RX1) (T := TX1) (N := 12) hx hb hts inX1 hown hK hP 0 rfl rfl 1 (by decide) (hts (.fieldLink RX1 13 "GridCommons" "switches" "[Z") (by decide +kernel)) (fun _ h9 => h9) rfl dX1_setSwitch_12 ?_
  refine lv_iload_n hx hb dX1_setSwitch_15 rfl (lv_at hl 2 rfl) ?_
  refine lv_iload_n hx hb dX1_setSwitch_16 rfl (lv_at hl 3 rfl) ?_
  refine xk_zast (x' := can) hx hb hK hP hD hS 2 1 rfl rfl (o := o) (by omega) (by decide) (nar01 hcan) dX1_setSwitch_17 (fun H locs hP hD hS => ?_)
  have hP : va_P D vwCl (XW a cI cZ cD sh (upd sw o can) ts bi it tu ne pr so lo wt cn lp lz lu lk ld lf lb lw) H := hP
  have hD : va_D A (XW a cI cZ cD sh (upd sw o can) ts bi it tu ne pr so lo wt cn lp lz lu lk ld lf lb lw) := hD
  refine lv_iload_n hx hb dX1_setSwitch_18 rfl (lv_at hl 0 rfl) ?_
  exact W.zret hx hb hr (nar01n (hsw o)) (fun t ht hW => ⟨⟨_, (), rfl, rfl, by rw [ht]; exact hP, va_K.moved hW.alike hK, hD⟩, hS.F ht⟩) hS.2.2 dX1_setSwitch_19
set_option maxHeartbeats 4000000 in
set_option maxRecDepth 100000 in
theorem mX1_setSwitchX (l : Launch) (hst : l.stackTraces = false) (D : va_G) (cI cZ cD : ClassId) (a : Nat → Nat) (Hp : Heap) (sh sw ts : Nat → Int32) (bi : Nat → UInt64) (it tu : Nat → Int32) (ne : Nat → UInt64) (pr so lo : UInt64) (wt cn : Int32) (lp lz lu : Nat → UInt64) (lk : Nat → Int32) (ld lf lb lw : Nat → UInt64) (x can : Int32) (hbad : ¬ inR x 0 4) : vx_Met l yX1_setSwitch wsX1_setSwitch ({ frames := 7, cells := 1, slots := 6, locals := 102 } : Room) (va_Pc [.ref (a 0), .int x, .int can] (XQ D cI cZ cD (XW a cI cZ cD sh sw ts bi it tu ne pr so lo wt cn lp lz lu lk ld lf lb lw) Hp)) (va_Qi (fun _ (_ : Unit) => False) (fun _ _ => True) (fun q => Hp.size ≤ q)) (XE (fun E => E = "java/lang/IllegalArgumentException") Hp.size) 1 6 (fun q => Hp.size ≤ q) := by
  refine vx_ofW (cc := cX1_setSwitch) (maxL := 4) (ret := (some .boolean)) (by decide +kernel) rfl ?_
  intro p e s m args below meth c s₁ B hml htab hv
  obtain ⟨rfl, hsz, ⟨hP, hK, hD⟩, hE⟩ := hv
  have hx := B.exec
  have hb := B.bytes
  have hr := B.returns
  have hts := atoms_spec (ws := wsX1_setSwitch) B.pre
  have hown : s.vm.findClass RX1 = some m.cls := findClass_of_methodNamed B.named
  have hlocks := B.notSynchronized
  subst hsz
  have hA : ∀ q : Nat, s.heap.size ≤ q → (fun q => s.heap.size ≤ q) q := fun q h => h
  have hS : va_S (fun q => s.heap.size ≤ q) s.heap s.heap [] := va_S.rf
  have hl := lv_entry ([.ref (a 0), .int x, .int can]) (n := 4) (Nat.le_of_ble_eq_true rfl)
  rw [lg_entry_eq]
  generalize (lg_sl ([.ref (a 0), .int x, .int can]) ++ List.replicate (4 - (lg_sl ([.ref (a 0), .int x, .int can])).length) Slot.unset).toArray = ls at hl ⊢
  have hl : lv_has ls 4 [(0, .ref (a 0)), (1, .int x), (2, .int can)] := hl
  refine lv_iload_n hx hb dX1_setSwitch_0 rfl (lv_at hl 1 rfl) ?_
  exact vx_callv (vx_runS (As := [.int x]) (rest := []) ⟨hx, hb, hml, hown, hts⟩ (mX1_requireOwner l hst s.heap x) (va_cwS 1 hts gX1_setSwitch_X1_requireOwner rfl rfl rfl (by decide +kernel) ⟨Nat.le_of_ble_eq_true rfl, Nat.le_of_ble_eq_true rfl⟩) ⟨xh_blind, xh_pre hE hS hA⟩ rfl rfl hl.1 rfl (lv_room (Nat.le_of_ble_eq_true rfl)) dX1_setSwitch_1 ⟨Nat.le_of_ble_eq_true rfl, Nat.le_of_ble_eq_true rfl⟩) hS (fun q h1 h2 => absurd h2 (Nat.not_le.mpr h1)) (fun q h => hA q (Nat.le_trans hS.1 h)) (fun q h1 h2 => absurd h2 (Nat.not_le.mpr h1)) (fun E ce q9 u9 t9 H9 locs9 ht9 hvm9 hpx9 hB9 hz9 hk9 hS9 hce9 hcv9 hcl9 => vx_out (fun x h => (htab x h).elim) hlocks hce9 hcv9 hcl9 (fun t8 ht8 hvm8 => ⟨(), trivial, hB9.1, by rw [ht8]; exact hz9, fun q h1 h2 => by rw [ht8]; exact hk9 q h1 h2⟩) hS9.2.2 (Nat.le_refl _) (Nat.le_refl _)) (fun u t H1 locs1 ht hvm hw hB hz1 hk1 hS1 => absurd hw hbad)
set_option maxHeartbeats 4000000 in
set_option maxRecDepth 100000 in
theorem mX1_setPriceV (l : Launch) (D : va_G) (cI cZ cD : ClassId) (a : Nat → Nat) (sz : Nat) (sh sw ts : Nat → Int32) (bi : Nat → UInt64) (it tu : Nat → Int32) (ne : Nat → UInt64) (pr so lo : UInt64) (wt cn : Int32) (lp lz lu : Nat → UInt64) (lk : Nat → Int32) (ld lf lb lw : Nat → UInt64) (k : Nat) (hk : 1 ≤ k ∧ k < 5) : Met l yX1_setPrice wsX1_setPrice ({ frames := 1, cells := 0, slots := 0, locals := 22 } : Room) (va_Pc [.ref (a 0), .int (nI k)] (XP D cI cZ cD (XW a cI cZ cD sh sw ts bi it tu ne pr so lo wt cn lp lz lu lk ld lf lb lw) sz)) (va_Qd (fun (r : UInt64) (u : Unit) => r = FP.ddiv (FP.i2d (nI k)) 4616189618054758400) (fun (u : Unit) t => XB D cI cZ cD (XW a cI cZ cD sh sw ts bi it tu ne (FP.ddiv (FP.i2d (nI k)) 4616189618054758400) so lo wt cn lp lz lu lk ld lf lb lw) (va_A (XW a cI cZ cD sh sw ts bi it tu ne pr so lo wt cn lp lz lu lk ld lf lb lw) sz) t) (va_A (XW a cI cZ cD sh sw ts bi it tu ne pr so lo wt cn lp lz lu lk ld lf lb lw) sz)) 0 0 (va_A (XW a cI cZ cD sh sw ts bi it tu ne pr so lo wt cn lp lz lu lk ld lf lb lw) sz) := by
  refine Met.ofW (cc := cX1_setPrice) (maxL := 2) (ret := (some .double)) (by decide +kernel) rfl ?_
  intro p e s m args below meth c s₁ B hml hv
  obtain ⟨rfl, hsz, hP, hK, hD0⟩ := hv
  have hx := B.exec
  have hb := B.bytes
  have hr := B.returns
  have hts := atoms_spec (ws := wsX1_setPrice) B.pre
  have hown : s.vm.findClass RX1 = some m.cls := findClass_of_methodNamed B.named
  have hlocks := B.notSynchronized
  subst hsz
  have hD := hD0.self (sz := s.heap.size)
  generalize hAe : va_A (XW a cI cZ cD sh sw ts bi it tu ne pr so lo wt cn lp lz lu lk ld lf lb lw) s.heap.size = A at hD ⊢
  have hA : ∀ q : Nat, s.heap.size ≤ q → A q := fun q h => by rw [← hAe]; exact Or.inr h
  have hS : va_S A s.heap s.heap [] := va_S.rf
  have hl := lv_entry ([.ref (a 0), .int (nI k)]) (n := 2) (Nat.le_of_ble_eq_true rfl)
  rw [lg_entry_eq]
  generalize (lg_sl ([.ref (a 0), .int (nI k)]) ++ List.replicate (2 - (lg_sl ([.ref (a 0), .int (nI k)])).length) Slot.unset).toArray = ls at hl ⊢
  have hl : lv_has ls 2 [(0, .ref (a 0)), (1, .int (nI k))] := hl
  have inX1 : ∀ w ∈ wsX10, w ∈ wsX1_setPrice := by decide +kernel
  refine lv_iload_n hx hb dX1_setPrice_0 rfl (lv_at hl 1 rfl) ?_
  refine lv_iconst (v := nI 1) hx hb dX1_setPrice_1 (by decide) ?_
  refine lv_iconst (v := nI 4) hx hb dX1_setPrice_2 (by decide) ?_
  refine va_csv (va_Run.run (va_runS (As := [.int (nI k), .int (nI 1), .int (nI 4)]) (rest := []) ⟨hx, hb, hml, hown, hts⟩ (mX1_requireWithinV l (nI k) (nI 1) (nI 4) ⟨nI_le hk.1 (by omega), nI_le (by omega) (by decide)⟩) (va_cwS 3 hts gX1_setPrice_X1_requireWithin rfl rfl rfl (by decide +kernel) ⟨Nat.le_of_ble_eq_true rfl, Nat.le_of_ble_eq_true rfl⟩) ⟨fun a U g mk q => q, fun U hU hW => ⟨rfl, trivial⟩⟩ rfl rfl hl.1 rfl (lv_room (Nat.le_of_ble_eq_true rfl)) dX1_setPrice_3 ⟨Nat.le_of_ble_eq_true rfl, Nat.le_of_ble_eq_true rfl⟩)) (fun _ => ?_)
  refine lv_aload_n hx hb dX1_setPrice_6 rfl (lv_at hl 0 rfl) ?_
  refine lv_iload_n hx hb dX1_setPrice_7 rfl (lv_at hl 1 rfl) ?_
  refine lv_i2d hx hb dX1_setPrice_8 ?_
  refine lv_ldc2d hx hb hown (hts (.constantDouble RX1 75 4616189618054758400) (by decide +kernel)) dX1_setPrice_9 ?_
  refine lv_ddiv hx hb dX1_setPrice_12 (pr_ok k hk.2) ?_
  refine va_put (D := D) (ci := 1) (v := .double (FP.ddiv (FP.i2d (nI k)) 4616189618054758400)) (ty := .double) (C := RX1) (T := TX1) (N := 12) hx hb hts inX1 tyX1 tyX1_ok nmX1 hown hK hP hD hS 0 rfl rfl 7 (by decide) (hts (.fieldLink RX1 39 "GridCommons" "price" "D") (by decide +kernel)) (fun _ h9 => h9) rfl (by decide +kernel) rfl rfl (Nat.le_of_ble_eq_true rfl) dX1_setPrice_13 (fun H locs hP hD hS => ?_)
  have hP : va_P D vwCl (XW a cI cZ cD sh sw ts bi it tu ne (FP.ddiv (FP.i2d (nI k)) 4616189618054758400) so lo wt cn lp lz lu lk ld lf lb lw) H := hP
  have hD : va_D A (XW a cI cZ cD sh sw ts bi it tu ne (FP.ddiv (FP.i2d (nI k)) 4616189618054758400) so lo wt cn lp lz lu lk ld lf lb lw) := hD
  refine lv_aload_n hx hb dX1_setPrice_16 rfl (lv_at hl 0 rfl) ?_
  refine va_get (D := D) (ci := 1) (v := .double (FP.ddiv (FP.i2d (nI k)) 4616189618054758400)) (C := RX1) (T := TX1) (N := 12) hx hb hts inX1 hown hK hP 0 rfl rfl 7 (by decide) (hts (.fieldLink RX1 39 "GridCommons" "price" "D") (by decide +kernel)) (fun _ h9 => h9) rfl dX1_setPrice_17 ?_
  exact W.dret hx hb hr (fun t ht hW => ⟨⟨_, (), rfl, rfl, by rw [ht]; exact hP, va_K.moved hW.alike hK, hD⟩, hS.F ht⟩) hS.2.2 dX1_setPrice_20
set_option maxHeartbeats 4000000 in
set_option maxRecDepth 100000 in
theorem mX1_setPriceX (l : Launch) (hst : l.stackTraces = false) (D : va_G) (cI cZ cD : ClassId) (a : Nat → Nat) (Hp : Heap) (sh sw ts : Nat → Int32) (bi : Nat → UInt64) (it tu : Nat → Int32) (ne : Nat → UInt64) (pr so lo : UInt64) (wt cn : Int32) (lp lz lu : Nat → UInt64) (lk : Nat → Int32) (ld lf lb lw : Nat → UInt64) (x : Int32) (hbad : ¬ inR x 1 4) : vx_Met l yX1_setPrice wsX1_setPrice ({ frames := 7, cells := 1, slots := 6, locals := 104 } : Room) (va_Pc [.ref (a 0), .int x] (XQ D cI cZ cD (XW a cI cZ cD sh sw ts bi it tu ne pr so lo wt cn lp lz lu lk ld lf lb lw) Hp)) (va_Qd (fun _ (_ : Unit) => False) (fun _ _ => True) (fun q => Hp.size ≤ q)) (XE (fun E => E = "java/lang/IllegalArgumentException") Hp.size) 1 6 (fun q => Hp.size ≤ q) := by
  refine vx_ofW (cc := cX1_setPrice) (maxL := 2) (ret := (some .double)) (by decide +kernel) rfl ?_
  intro p e s m args below meth c s₁ B hml htab hv
  obtain ⟨rfl, hsz, ⟨hP, hK, hD⟩, hE⟩ := hv
  have hx := B.exec
  have hb := B.bytes
  have hr := B.returns
  have hts := atoms_spec (ws := wsX1_setPrice) B.pre
  have hown : s.vm.findClass RX1 = some m.cls := findClass_of_methodNamed B.named
  have hlocks := B.notSynchronized
  subst hsz
  have hA : ∀ q : Nat, s.heap.size ≤ q → (fun q => s.heap.size ≤ q) q := fun q h => h
  have hS : va_S (fun q => s.heap.size ≤ q) s.heap s.heap [] := va_S.rf
  have hl := lv_entry ([.ref (a 0), .int x]) (n := 2) (Nat.le_of_ble_eq_true rfl)
  rw [lg_entry_eq]
  generalize (lg_sl ([.ref (a 0), .int x]) ++ List.replicate (2 - (lg_sl ([.ref (a 0), .int x])).length) Slot.unset).toArray = ls at hl ⊢
  have hl : lv_has ls 2 [(0, .ref (a 0)), (1, .int x)] := hl
  refine lv_iload_n hx hb dX1_setPrice_0 rfl (lv_at hl 1 rfl) ?_
  refine lv_iconst (v := nI 1) hx hb dX1_setPrice_1 (by decide) ?_
  refine lv_iconst (v := nI 4) hx hb dX1_setPrice_2 (by decide) ?_
  exact vx_callv (vx_runS (As := [.int x, .int (nI 1), .int (nI 4)]) (rest := []) ⟨hx, hb, hml, hown, hts⟩ (mX1_requireWithin l hst s.heap x (nI 1) (nI 4)) (va_cwS 3 hts gX1_setPrice_X1_requireWithin rfl rfl rfl (by decide +kernel) ⟨Nat.le_of_ble_eq_true rfl, Nat.le_of_ble_eq_true rfl⟩) ⟨xh_blind, xh_pre hE hS hA⟩ rfl rfl hl.1 rfl (lv_room (Nat.le_of_ble_eq_true rfl)) dX1_setPrice_3 ⟨Nat.le_of_ble_eq_true rfl, Nat.le_of_ble_eq_true rfl⟩) hS (fun q h1 h2 => absurd h2 (Nat.not_le.mpr h1)) (fun q h => hA q (Nat.le_trans hS.1 h)) (fun q h1 h2 => absurd h2 (Nat.not_le.mpr h1)) (fun E ce q9 u9 t9 H9 locs9 ht9 hvm9 hpx9 hB9 hz9 hk9 hS9 hce9 hcv9 hcl9 => vx_out (fun x h => (htab x h).elim) hlocks hce9 hcv9 hcl9 (fun t8 ht8 hvm8 => ⟨(), trivial, hB9.1, by rw [ht8]; exact hz9, fun q h1 h2 => by rw [ht8]; exact hk9 q h1 h2⟩) hS9.2.2 (Nat.le_refl _) (Nat.le_refl _)) (fun u t H1 locs1 ht hvm hw hB hz1 hk1 hS1 => absurd hw hbad)
set_option maxHeartbeats 4000000 in
set_option maxRecDepth 100000 in
theorem mX1_tellV (l : Launch) (D : va_G) (cI cZ cD : ClassId) (a : Nat → Nat) (sz : Nat) (sh sw ts : Nat → Int32) (bi : Nat → UInt64) (it tu : Nat → Int32) (ne : Nat → UInt64) (pr so lo : UInt64) (wt cn : Int32) (lp lz lu : Nat → UInt64) (lk : Nat → Int32) (ld lf lb lw : Nat → UInt64) (o : Nat) (use : Int32) (ho : o < 5) (hus : inR use 0 50) (hit : ∀ j, it j = 0 ∨ it j = 1) : Met l yX1_tell wsX1_tell ({ frames := 1, cells := 0, slots := 0, locals := 22 } : Room) (va_Pc [.ref (a 0), .int (nI o), .int use] (XP D cI cZ cD (XW a cI cZ cD sh sw ts bi it tu ne pr so lo wt cn lp lz lu lk ld lf lb lw) sz)) (va_Qi (fun (r : Int32) (u : Unit) => r = it o) (fun (u : Unit) t => XB D cI cZ cD (XW a cI cZ cD sh sw ts bi (upd it o 1) (upd tu o use) ne pr so lo wt cn lp lz lu lk ld lf lb lw) (va_A (XW a cI cZ cD sh sw ts bi it tu ne pr so lo wt cn lp lz lu lk ld lf lb lw) sz) t) (va_A (XW a cI cZ cD sh sw ts bi it tu ne pr so lo wt cn lp lz lu lk ld lf lb lw) sz)) 0 0 (va_A (XW a cI cZ cD sh sw ts bi it tu ne pr so lo wt cn lp lz lu lk ld lf lb lw) sz) := by
  refine Met.ofW (cc := cX1_tell) (maxL := 4) (ret := (some .boolean)) (by decide +kernel) rfl ?_
  intro p e s m args below meth c s₁ B hml hv
  obtain ⟨rfl, hsz, hP, hK, hD0⟩ := hv
  have hx := B.exec
  have hb := B.bytes
  have hr := B.returns
  have hts := atoms_spec (ws := wsX1_tell) B.pre
  have hown : s.vm.findClass RX1 = some m.cls := findClass_of_methodNamed B.named
  have hlocks := B.notSynchronized
  subst hsz
  have hD := hD0.self (sz := s.heap.size)
  generalize hAe : va_A (XW a cI cZ cD sh sw ts bi it tu ne pr so lo wt cn lp lz lu lk ld lf lb lw) s.heap.size = A at hD ⊢
  have hA : ∀ q : Nat, s.heap.size ≤ q → A q := fun q h => by rw [← hAe]; exact Or.inr h
  have hS : va_S A s.heap s.heap [] := va_S.rf
  have hl := lv_entry ([.ref (a 0), .int (nI o), .int use]) (n := 4) (Nat.le_of_ble_eq_true rfl)
  rw [lg_entry_eq]
  generalize (lg_sl ([.ref (a 0), .int (nI o), .int use]) ++ List.replicate (4 - (lg_sl ([.ref (a 0), .int (nI o), .int use])).length) Slot.unset).toArray = ls at hl ⊢
  have hl : lv_has ls 4 [(0, .ref (a 0)), (1, .int (nI o)), (2, .int use)] := hl
  have inX1 : ∀ w ∈ wsX10, w ∈ wsX1_tell := by decide +kernel
  refine lv_iload_n hx hb dX1_tell_0 rfl (lv_at hl 1 rfl) ?_
  refine va_csv (va_Run.run (va_runS (As := [.int (nI o)]) (rest := []) ⟨hx, hb, hml, hown, hts⟩ (mX1_requireOwnerV l (nI o) (nI_inR (n := 4) (by omega) (by decide))) (va_cwS 1 hts gX1_tell_X1_requireOwner rfl rfl rfl (by decide +kernel) ⟨Nat.le_of_ble_eq_true rfl, Nat.le_of_ble_eq_true rfl⟩) ⟨fun a U g mk q => q, fun U hU hW => ⟨rfl, trivial⟩⟩ rfl rfl hl.1 rfl (lv_room (Nat.le_of_ble_eq_true rfl)) dX1_tell_1 ⟨Nat.le_of_ble_eq_true rfl, Nat.le_of_ble_eq_true rfl⟩)) (fun _ => ?_)
  refine lv_iload_n hx hb dX1_tell_4 rfl (lv_at hl 2 rfl) ?_
  refine lv_iconst (v := nI 0) hx hb dX1_tell_5 (by decide) ?_
  refine lv_bipush (v := nI 50) hx hb dX1_tell_6 (by decide) ?_
  refine va_csv (va_Run.run (va_runS (As := [.int use, .int (nI 0), .int (nI 50)]) (rest := []) ⟨hx, hb, hml, hown, hts⟩ (mX1_requireWithinV l use (nI 0) (nI 50) hus) (va_cwS 3 hts gX1_tell_X1_requireWithin rfl rfl rfl (by decide +kernel) ⟨Nat.le_of_ble_eq_true rfl, Nat.le_of_ble_eq_true rfl⟩) ⟨fun a U g mk q => q, fun U hU hW => ⟨rfl, trivial⟩⟩ rfl rfl hl.1 rfl (lv_room (Nat.le_of_ble_eq_true rfl)) dX1_tell_8 ⟨Nat.le_of_ble_eq_true rfl, Nat.le_of_ble_eq_true rfl⟩)) (fun _ => ?_)
  refine lv_aload_n hx hb dX1_tell_11 rfl (lv_at hl 0 rfl) ?_
  refine va_get (D := D) (ci := 1) (v := .ref (a 5)) (C := RX1) (T := TX1) (N := 12) hx hb hts inX1 hown hK hP 0 rfl rfl 4 (by decide) (hts (.fieldLink RX1 24 "GridCommons" "isTold" "[Z") (by decide +kernel)) (fun _ h9 => h9) rfl dX1_tell_12 ?_
  refine lv_iload_n hx hb dX1_tell_15 rfl (lv_at hl 1 rfl) ?_
  refine xk_zald hx hb hK hP 5 1 rfl rfl (o := o) (by omega) (by decide) dX1_tell_16 ?_
  refine lv_istore_n (lv' := [(3, .int (it o)), (0, .ref (a 0)), (1, .int (nI o)), (2, .int use)]) hx hb dX1_tell_17 rfl hl (by decide) rfl (fun ls hl => ?_)
  refine lv_aload_n hx hb dX1_tell_18 rfl (lv_at hl 1 rfl) ?_
  refine va_get (D := D) (ci := 1) (v := .ref (a 5)) (C := RX1) (T := TX1) (N := 12) hx hb hts inX1 hown hK hP 0 rfl rfl 4 (by decide) (hts (.fieldLink RX1 24 "GridCommons" "isTold" "[Z") (by decide +kernel)) (fun _ h9 => h9) rfl dX1_tell_19 ?_
  refine lv_iload_n hx hb dX1_tell_22 rfl (lv_at hl 2 rfl) ?_
  refine lv_iconst (v := nI 1) hx hb dX1_tell_23 (by decide) ?_
  refine xk_zast (x' := 1) hx hb hK hP hD hS 5 1 rfl rfl (o := o) (by omega) (by decide) rfl dX1_tell_24 (fun H locs hP hD hS => ?_)
  have hP : va_P D vwCl (XW a cI cZ cD sh sw ts bi (upd it o 1) tu ne pr so lo wt cn lp lz lu lk ld lf lb lw) H := hP
  have hD : va_D A (XW a cI cZ cD sh sw ts bi (upd it o 1) tu ne pr so lo wt cn lp lz lu lk ld lf lb lw) := hD
  refine lv_aload_n hx hb dX1_tell_25 rfl (lv_at hl 1 rfl) ?_
  refine va_get (D := D) (ci := 1) (v := .ref (a 6)) (C := RX1) (T := TX1) (N := 12) hx hb hts inX1 hown hK hP 0 rfl rfl 5 (by decide) (hts (.fieldLink RX1 27 "GridCommons" "toldUse" "[I") (by decide +kernel)) (fun _ h9 => h9) rfl dX1_tell_26 ?_
  refine lv_iload_n hx hb dX1_tell_29 rfl (lv_at hl 2 rfl) ?_
  refine lv_iload_n hx hb dX1_tell_30 rfl (lv_at hl 3 rfl) ?_
  refine xk_iast hx hb hK hP hD hS 6 0 rfl rfl (o := o) (by omega) (by decide) dX1_tell_31 (fun H locs hP hD hS => ?_)
  have hP : va_P D vwCl (XW a cI cZ cD sh sw ts bi (upd it o 1) (upd tu o use) ne pr so lo wt cn lp lz lu lk ld lf lb lw) H := hP
  have hD : va_D A (XW a cI cZ cD sh sw ts bi (upd it o 1) (upd tu o use) ne pr so lo wt cn lp lz lu lk ld lf lb lw) := hD
  refine lv_iload_n hx hb dX1_tell_32 rfl (lv_at hl 0 rfl) ?_
  exact W.zret hx hb hr (nar01n (hit o)) (fun t ht hW => ⟨⟨_, (), rfl, rfl, by rw [ht]; exact hP, va_K.moved hW.alike hK, hD⟩, hS.F ht⟩) hS.2.2 dX1_tell_33
set_option maxHeartbeats 4000000 in
set_option maxRecDepth 100000 in
theorem mX1_tellX (l : Launch) (hst : l.stackTraces = false) (D : va_G) (cI cZ cD : ClassId) (a : Nat → Nat) (Hp : Heap) (sh sw ts : Nat → Int32) (bi : Nat → UInt64) (it tu : Nat → Int32) (ne : Nat → UInt64) (pr so lo : UInt64) (wt cn : Int32) (lp lz lu : Nat → UInt64) (lk : Nat → Int32) (ld lf lb lw : Nat → UInt64) (x use : Int32) (hbad : ¬ (inR x 0 4 ∧ inR use 0 50)) : vx_Met l yX1_tell wsX1_tell ({ frames := 7, cells := 1, slots := 6, locals := 104 } : Room) (va_Pc [.ref (a 0), .int x, .int use] (XQ D cI cZ cD (XW a cI cZ cD sh sw ts bi it tu ne pr so lo wt cn lp lz lu lk ld lf lb lw) Hp)) (va_Qi (fun _ (_ : Unit) => False) (fun _ _ => True) (fun q => Hp.size ≤ q)) (XE (fun E => E = "java/lang/IllegalArgumentException") Hp.size) 1 6 (fun q => Hp.size ≤ q) := by
  refine vx_ofW (cc := cX1_tell) (maxL := 4) (ret := (some .boolean)) (by decide +kernel) rfl ?_
  intro p e s m args below meth c s₁ B hml htab hv
  obtain ⟨rfl, hsz, ⟨hP, hK, hD⟩, hE⟩ := hv
  have hx := B.exec
  have hb := B.bytes
  have hr := B.returns
  have hts := atoms_spec (ws := wsX1_tell) B.pre
  have hown : s.vm.findClass RX1 = some m.cls := findClass_of_methodNamed B.named
  have hlocks := B.notSynchronized
  subst hsz
  have hA : ∀ q : Nat, s.heap.size ≤ q → (fun q => s.heap.size ≤ q) q := fun q h => h
  have hS : va_S (fun q => s.heap.size ≤ q) s.heap s.heap [] := va_S.rf
  have hl := lv_entry ([.ref (a 0), .int x, .int use]) (n := 4) (Nat.le_of_ble_eq_true rfl)
  rw [lg_entry_eq]
  generalize (lg_sl ([.ref (a 0), .int x, .int use]) ++ List.replicate (4 - (lg_sl ([.ref (a 0), .int x, .int use])).length) Slot.unset).toArray = ls at hl ⊢
  have hl : lv_has ls 4 [(0, .ref (a 0)), (1, .int x), (2, .int use)] := hl
  refine lv_iload_n hx hb dX1_tell_0 rfl (lv_at hl 1 rfl) ?_
  by_cases hin : inR x 0 4
  · skip
    refine va_csv (va_Run.run (va_runS (As := [.int x]) (rest := []) ⟨hx, hb, hml, hown, hts⟩ (mX1_requireOwnerV l x hin) (va_cwS 1 hts gX1_tell_X1_requireOwner rfl rfl rfl (by decide +kernel) ⟨Nat.le_of_ble_eq_true rfl, Nat.le_of_ble_eq_true rfl⟩) ⟨fun a U g mk q => q, fun U hU hW => ⟨rfl, trivial⟩⟩ rfl rfl hl.1 rfl (lv_room (Nat.le_of_ble_eq_true rfl)) dX1_tell_1 ⟨Nat.le_of_ble_eq_true rfl, Nat.le_of_ble_eq_true rfl⟩)) (fun _ => ?_)
    refine lv_iload_n hx hb dX1_tell_4 rfl (lv_at hl 2 rfl) ?_
    refine lv_iconst (v := nI 0) hx hb dX1_tell_5 (by decide) ?_
    refine lv_bipush (v := nI 50) hx hb dX1_tell_6 (by decide) ?_
    exact vx_callv (vx_runS (As := [.int use, .int (nI 0), .int (nI 50)]) (rest := []) ⟨hx, hb, hml, hown, hts⟩ (mX1_requireWithin l hst s.heap use (nI 0) (nI 50)) (va_cwS 3 hts gX1_tell_X1_requireWithin rfl rfl rfl (by decide +kernel) ⟨Nat.le_of_ble_eq_true rfl, Nat.le_of_ble_eq_true rfl⟩) ⟨xh_blind, xh_pre hE hS hA⟩ rfl rfl hl.1 rfl (lv_room (Nat.le_of_ble_eq_true rfl)) dX1_tell_8 ⟨Nat.le_of_ble_eq_true rfl, Nat.le_of_ble_eq_true rfl⟩) hS (fun q h1 h2 => absurd h2 (Nat.not_le.mpr h1)) (fun q h => hA q (Nat.le_trans hS.1 h)) (fun q h1 h2 => absurd h2 (Nat.not_le.mpr h1)) (fun E ce q9 u9 t9 H9 locs9 ht9 hvm9 hpx9 hB9 hz9 hk9 hS9 hce9 hcv9 hcl9 => vx_out (fun x h => (htab x h).elim) hlocks hce9 hcv9 hcl9 (fun t8 ht8 hvm8 => ⟨(), trivial, hB9.1, by rw [ht8]; exact hz9, fun q h1 h2 => by rw [ht8]; exact hk9 q h1 h2⟩) hS9.2.2 (Nat.le_refl _) (Nat.le_refl _)) (fun u t H1 locs1 ht hvm hw hB hz1 hk1 hS1 => absurd ⟨hin, hw⟩ hbad)
  · skip
    exact vx_callv (vx_runS (As := [.int x]) (rest := []) ⟨hx, hb, hml, hown, hts⟩ (mX1_requireOwner l hst s.heap x) (va_cwS 1 hts gX1_tell_X1_requireOwner rfl rfl rfl (by decide +kernel) ⟨Nat.le_of_ble_eq_true rfl, Nat.le_of_ble_eq_true rfl⟩) ⟨xh_blind, xh_pre hE hS hA⟩ rfl rfl hl.1 rfl (lv_room (Nat.le_of_ble_eq_true rfl)) dX1_tell_1 ⟨Nat.le_of_ble_eq_true rfl, Nat.le_of_ble_eq_true rfl⟩) hS (fun q h1 h2 => absurd h2 (Nat.not_le.mpr h1)) (fun q h => hA q (Nat.le_trans hS.1 h)) (fun q h1 h2 => absurd h2 (Nat.not_le.mpr h1)) (fun E ce q9 u9 t9 H9 locs9 ht9 hvm9 hpx9 hB9 hz9 hk9 hS9 hce9 hcv9 hcl9 => vx_out (fun x h => (htab x h).elim) hlocks hce9 hcv9 hcl9 (fun t8 ht8 hvm8 => ⟨(), trivial, hB9.1, by rw [ht8]; exact hz9, fun q h1 h2 => by rw [ht8]; exact hk9 q h1 h2⟩) hS9.2.2 (Nat.le_refl _) (Nat.le_refl _)) (fun u t H1 locs1 ht hvm hw hB hz1 hk1 hS1 => absurd hw hin)
set_option maxHeartbeats 4000000 in
set_option maxRecDepth 100000 in
theorem mX1_replaceV (l : Launch) (D : va_G) (cI cZ cD : ClassId) (a : Nat → Nat) (sz : Nat) (sh sw ts : Nat → Int32) (bi : Nat → UInt64) (it tu : Nat → Int32) (ne : Nat → UInt64) (pr so lo : UInt64) (wt : Int32) (lp lz lu : Nat → UInt64) (lk : Nat → Int32) (ld lf lb lw : Nat → UInt64) (n o q : Nat) (use : Int32) (hn : n ≤ 60) (ho : o < 5) (hq : q < n) (hus : inR use 0 50) (hkn : lk (5 * q + o) = 0) : MetD lw_cs l yX1_replace wsX1_replace ({ frames := 1, cells := 0, slots := 0, locals := 22 } : Room) (va_Pc [.ref (a 0), .int (nI o), .int (nI q), .int use] (XP D cI cZ cD (XW a cI cZ cD sh sw ts bi it tu ne pr so lo wt (nI n) lp lz lu lk ld lf lb lw) sz)) (va_Qd (fun (r : UInt64) (u : Nat → UInt64) => dt r = dMul (dSub (dI use) (dts ld (5 * q + o))) (dts lp q) ∧ dts u = va_up (dts bi) o (dAdd (dts bi o) (dMul (dSub (dI use) (dts ld (5 * q + o))) (dts lp q)))) (fun (u : Nat → UInt64) t => XB D cI cZ cD (XW a cI cZ cD sh sw ts u it tu ne pr so lo wt (nI n) lp lz (vf_upd lu (5 * q + o) (FP.i2d use)) (upd lk (5 * q + o) 1) ld lf lb lw) (va_A (XW a cI cZ cD sh sw ts bi it tu ne pr so lo wt (nI n) lp lz lu lk ld lf lb lw) sz) t) (va_A (XW a cI cZ cD sh sw ts bi it tu ne pr so lo wt (nI n) lp lz lu lk ld lf lb lw) sz)) 0 0 (va_A (XW a cI cZ cD sh sw ts bi it tu ne pr so lo wt (nI n) lp lz lu lk ld lf lb lw) sz) := by
  refine MetD.ofW (cc := cX1_replace) (maxL := 7) (ret := (some .double)) (by decide +kernel) rfl ?_
  intro p e s m args below meth c s₁ B hml hv hd0
  obtain ⟨rfl, hsz, hP, hK, hD0⟩ := hv
  have hx := B.exec
  have hb := B.bytes
  have hr := B.returns
  have hts := atoms_spec (ws := wsX1_replace) B.pre
  have hown : s.vm.findClass RX1 = some m.cls := findClass_of_methodNamed B.named
  have hlocks := B.notSynchronized
  subst hsz
  have hD := hD0.self (sz := s.heap.size)
  generalize hAe : va_A (XW a cI cZ cD sh sw ts bi it tu ne pr so lo wt (nI n) lp lz lu lk ld lf lb lw) s.heap.size = A at hD ⊢
  have hA : ∀ q : Nat, s.heap.size ≤ q → A q := fun q h => by rw [← hAe]; exact Or.inr h
  have hS : va_S A s.heap s.heap [] := va_S.rf
  have hl := lv_entry ([.ref (a 0), .int (nI o), .int (nI q), .int use]) (n := 7) (Nat.le_of_ble_eq_true rfl)
  rw [lg_entry_eq]
  generalize (lg_sl ([.ref (a 0), .int (nI o), .int (nI q), .int use]) ++ List.replicate (7 - (lg_sl ([.ref (a 0), .int (nI o), .int (nI q), .int use])).length) Slot.unset).toArray = ls at hl ⊢
  have hl : lv_has ls 7 [(0, .ref (a 0)), (1, .int (nI o)), (2, .int (nI q)), (3, .int use)] := hl
  have inX1 : ∀ w ∈ wsX10, w ∈ wsX1_replace := by decide +kernel
  have inX0 : ∀ w ∈ wsX00, w ∈ wsX1_replace := by decide +kernel
  refine lv_iload_n hx hb dX1_replace_0 rfl (lv_at hl 1 rfl) ?_
  refine va_csv (va_Run.run (va_runS (As := [.int (nI o)]) (rest := []) ⟨hx, hb, hml, (xk_od hown), (dr_words hts _)⟩ (mX1_requireOwnerV l (nI o) (nI_inR (n := 4) (by omega) (by decide))) (va_cwS 1 (dr_words hts _) gX1_replace_X1_requireOwner rfl rfl rfl (by decide +kernel) ⟨Nat.le_of_ble_eq_true rfl, Nat.le_of_ble_eq_true rfl⟩) ⟨fun a U g mk q => q, fun U hU hW => ⟨rfl, trivial⟩⟩ rfl rfl hl.1 rfl (lv_room (Nat.le_of_ble_eq_true rfl)) dX1_replace_1 ⟨Nat.le_of_ble_eq_true rfl, Nat.le_of_ble_eq_true rfl⟩)) (fun _ => ?_)
  refine lv_iload_n hx hb dX1_replace_4 rfl (lv_at hl 3 rfl) ?_
  refine lv_iconst (v := nI 0) hx hb dX1_replace_5 (by decide) ?_
  refine lv_bipush (v := nI 50) hx hb dX1_replace_6 (by decide) ?_
  refine va_csv (va_Run.run (va_runS (As := [.int use, .int (nI 0), .int (nI 50)]) (rest := []) ⟨hx, hb, hml, (xk_od hown), (dr_words hts _)⟩ (mX1_requireWithinV l use (nI 0) (nI 50) hus) (va_cwS 3 (dr_words hts _) gX1_replace_X1_requireWithin rfl rfl rfl (by decide +kernel) ⟨Nat.le_of_ble_eq_true rfl, Nat.le_of_ble_eq_true rfl⟩) ⟨fun a U g mk q => q, fun U hU hW => ⟨rfl, trivial⟩⟩ rfl rfl hl.1 rfl (lv_room (Nat.le_of_ble_eq_true rfl)) dX1_replace_8 ⟨Nat.le_of_ble_eq_true rfl, Nat.le_of_ble_eq_true rfl⟩)) (fun _ => ?_)
  refine lv_aload_n hx hb dX1_replace_11 rfl (lv_at hl 0 rfl) ?_
  refine lv_iload_n hx hb dX1_replace_12 rfl (lv_at hl 2 rfl) ?_
  refine va_csv (va_Run.run (va_runV (As := [.int (nI q)]) (rest := []) ⟨hx, hb, hml, (xk_od hown), (dr_words hts _)⟩ (mX1_requireQuarterV l D cI cZ cD a _ sh sw ts bi it tu ne pr so lo wt lp lz lu lk ld lf lb lw n (nI q) ⟨nI_pos' (by omega), nI_lt hq (by omega)⟩) (cwV 1 (dr_words hts _) gX1_replace_X1_requireQuarter rfl rfl rfl (by decide +kernel) ⟨Nat.le_of_ble_eq_true rfl, Nat.le_of_ble_eq_true rfl⟩) ⟨xk_blind, va_recv (xk_Kd hK) hP (ci := 1) (q0 := 0) rfl rfl, xk_pre hP (xk_Kd hK) hD⟩ rfl rfl hl.1 rfl (lv_room (Nat.le_of_ble_eq_true rfl)) dX1_replace_13 ⟨Nat.le_of_ble_eq_true rfl, Nat.le_of_ble_eq_true rfl⟩)) (fun _ => ?_)
  refine lv_iload_n hx hb dX1_replace_16 rfl (lv_at hl 1 rfl) ?_
  refine lv_iload_n hx hb dX1_replace_17 rfl (lv_at hl 2 rfl) ?_
  refine vp_callSi (va_Run.run (va_runS (As := [.int (nI o), .int (nI q)]) (rest := []) ⟨hx, hb, hml, (xk_od hown), (dr_words hts _)⟩ (mX0_slot l o q) (va_cwS 2 (dr_words hts _) gX1_replace_X0_slot rfl rfl rfl (by decide +kernel) ⟨Nat.le_of_ble_eq_true rfl, Nat.le_of_ble_eq_true rfl⟩) ⟨fun a U g mk q => q, fun U hU hW => ⟨rfl, trivial⟩⟩ rfl rfl hl.1 rfl (lv_room (Nat.le_of_ble_eq_true rfl)) dX1_replace_18 ⟨Nat.le_of_ble_eq_true rfl, Nat.le_of_ble_eq_true rfl⟩)) (fun r hr1 => ?_)
  subst hr1
  refine lv_istore (lv' := [(4, .int (nI (5 * q + o))), (0, .ref (a 0)), (1, .int (nI o)), (2, .int (nI q)), (3, .int use)]) hx hb dX1_replace_21 hl (by decide) rfl (fun ls hl => ?_)
  refine lv_aload_n hx hb dX1_replace_23 rfl (lv_at hl 1 rfl) ?_
  refine va_get (D := D) (ci := 1) (v := .ref (a 8)) (C := RX1) (T := TX1) (N := 12) hx hb (dr_words hts _) inX1 (xk_od hown) (xk_Kd hK) hP 0 rfl rfl 6 (by decide) (dr_words hts _ (.fieldLink RX1 33 "GridCommons" "ledger" "LGridCommons$Ledger;") (by decide +kernel)) (fun _ h9 => h9) rfl dX1_replace_24 ?_
  refine va_get (D := D) (ci := 0) (v := .ref (a 12)) (C := RX0) (T := TX0) (N := 9) hx hb (dr_words hts _) inX0 (xk_od hown) (xk_Kd hK) hP 8 rfl rfl 4 (by decide) (dr_words hts _ (.fieldLink RX1 120 "GridCommons$Ledger" "known" "[Z") (by decide +kernel)) (fun _ h9 => h9) rfl dX1_replace_27 ?_
  refine lv_iload hx hb dX1_replace_30 (lv_at hl 0 rfl) ?_
  refine xk_zald hx hb (xk_Kd hK) hP 12 1 rfl rfl (o := (5 * q + o)) (by omega) (by decide) dX1_replace_32 ?_
  refine lv_if_eq (tgt := 46) hx hb dX1_replace_33 (by decide) (fun c => ?_) (fun c => ?_)
  · skip
    refine lv_aload_n hx hb dX1_replace_46 rfl (lv_at hl 1 rfl) ?_
    refine va_get (D := D) (ci := 1) (v := .ref (a 8)) (C := RX1) (T := TX1) (N := 12) hx hb (dr_words hts _) inX1 (xk_od hown) (xk_Kd hK) hP 0 rfl rfl 6 (by decide) (dr_words hts _ (.fieldLink RX1 33 "GridCommons" "ledger" "LGridCommons$Ledger;") (by decide +kernel)) (fun _ h9 => h9) rfl dX1_replace_47 ?_
    refine va_get (D := D) (ci := 0) (v := .ref (a 12)) (C := RX0) (T := TX0) (N := 9) hx hb (dr_words hts _) inX0 (xk_od hown) (xk_Kd hK) hP 8 rfl rfl 4 (by decide) (dr_words hts _ (.fieldLink RX1 120 "GridCommons$Ledger" "known" "[Z") (by decide +kernel)) (fun _ h9 => h9) rfl dX1_replace_50 ?_
    refine lv_iload hx hb dX1_replace_53 (lv_at hl 0 rfl) ?_
    refine lv_iconst (v := nI 1) hx hb dX1_replace_55 (by decide) ?_
    refine xk_zast (x' := 1) hx hb (xk_Kd hK) hP hD hS 12 1 rfl rfl (o := (5 * q + o)) (by omega) (by decide) rfl dX1_replace_56 (fun H locs hP hD hS => ?_)
    have hP : va_P D vwCl (XW a cI cZ cD sh sw ts bi it tu ne pr so lo wt (nI n) lp lz lu (upd lk (5 * q + o) 1) ld lf lb lw) H := hP
    have hD : va_D A (XW a cI cZ cD sh sw ts bi it tu ne pr so lo wt (nI n) lp lz lu (upd lk (5 * q + o) 1) ld lf lb lw) := hD
    refine lv_aload_n hx hb dX1_replace_57 rfl (lv_at hl 1 rfl) ?_
    refine va_get (D := D) (ci := 1) (v := .ref (a 8)) (C := RX1) (T := TX1) (N := 12) hx hb (dr_words hts _) inX1 (xk_od hown) (xk_Kd hK) hP 0 rfl rfl 6 (by decide) (dr_words hts _ (.fieldLink RX1 33 "GridCommons" "ledger" "LGridCommons$Ledger;") (by decide +kernel)) (fun _ h9 => h9) rfl dX1_replace_58 ?_
    refine va_get (D := D) (ci := 0) (v := .ref (a 11)) (C := RX0) (T := TX0) (N := 9) hx hb (dr_words hts _) inX0 (xk_od hown) (xk_Kd hK) hP 8 rfl rfl 3 (by decide) (dr_words hts _ (.fieldLink RX1 125 "GridCommons$Ledger" "use" "[D") (by decide +kernel)) (fun _ h9 => h9) rfl dX1_replace_61 ?_
    refine lv_iload hx hb dX1_replace_64 (lv_at hl 0 rfl) ?_
    refine lv_iload_n hx hb dX1_replace_66 rfl (lv_at hl 4 rfl) ?_
    refine lv_i2d hx hb dX1_replace_67 ?_
    refine xk_dast hx hb (xk_Kd hK) hP hD hS 11 2 rfl rfl (o := (5 * q + o)) (by omega) (by decide) dX1_replace_68 (fun H locs hP hD hS => ?_)
    have hP : va_P D vwCl (XW a cI cZ cD sh sw ts bi it tu ne pr so lo wt (nI n) lp lz (vf_upd lu (5 * q + o) (FP.i2d use)) (upd lk (5 * q + o) 1) ld lf lb lw) H := hP
    have hD : va_D A (XW a cI cZ cD sh sw ts bi it tu ne pr so lo wt (nI n) lp lz (vf_upd lu (5 * q + o) (FP.i2d use)) (upd lk (5 * q + o) 1) ld lf lb lw) := hD
    refine lv_iload_n hx hb dX1_replace_69 rfl (lv_at hl 4 rfl) ?_
    refine lv_i2d hx hb dX1_replace_70 ?_
    refine lv_aload_n hx hb dX1_replace_71 rfl (lv_at hl 1 rfl) ?_
    refine va_get (D := D) (ci := 1) (v := .ref (a 8)) (C := RX1) (T := TX1) (N := 12) hx hb (dr_words hts _) inX1 (xk_od hown) (xk_Kd hK) hP 0 rfl rfl 6 (by decide) (dr_words hts _ (.fieldLink RX1 33 "GridCommons" "ledger" "LGridCommons$Ledger;") (by decide +kernel)) (fun _ h9 => h9) rfl dX1_replace_72 ?_
    refine va_get (D := D) (ci := 0) (v := .ref (a 13)) (C := RX0) (T := TX0) (N := 9) hx hb (dr_words hts _) inX0 (xk_od hown) (xk_Kd hK) hP 8 rfl rfl 5 (by decide) (dr_words hts _ (.fieldLink RX1 128 "GridCommons$Ledger" "used" "[D") (by decide +kernel)) (fun _ h9 => h9) rfl dX1_replace_75 ?_
    refine lv_iload hx hb dX1_replace_78 (lv_at hl 0 rfl) ?_
    refine xk_dald hx hb (xk_Kd hK) hP 13 2 rfl rfl (o := (5 * q + o)) (by omega) (by decide) dX1_replace_80 ?_
    refine lv_dsub_any hd0 lw_bits hx hb dX1_replace_81 (fun r1 _ hal hd2 => ?_)
    have er1 := dt_sub hal
    refine lv_aload_n hx hb dX1_replace_82 rfl (lv_at hl 1 rfl) ?_
    refine va_get (D := D) (ci := 1) (v := .ref (a 8)) (C := RX1) (T := TX1) (N := 12) hx hb (dr_words hts _) inX1 (xk_od hown) (xk_Kd hK) hP 0 rfl rfl 6 (by decide) (dr_words hts _ (.fieldLink RX1 33 "GridCommons" "ledger" "LGridCommons$Ledger;") (by decide +kernel)) (fun _ h9 => h9) rfl dX1_replace_83 ?_
    refine va_get (D := D) (ci := 0) (v := .ref (a 9)) (C := RX0) (T := TX0) (N := 9) hx hb (dr_words hts _) inX0 (xk_od hown) (xk_Kd hK) hP 8 rfl rfl 1 (by decide) (dr_words hts _ (.fieldLink RX1 82 "GridCommons$Ledger" "price" "[D") (by decide +kernel)) (fun _ h9 => h9) rfl dX1_replace_86 ?_
    refine lv_iload_n hx hb dX1_replace_89 rfl (lv_at hl 3 rfl) ?_
    refine xk_dald hx hb (xk_Kd hK) hP 9 2 rfl rfl (o := q) (by omega) (by decide) dX1_replace_90 ?_
    refine lv_dmul_any hd2 lw_bits hx hb dX1_replace_91 (fun r3 _ hal hd4 => ?_)
    have er3 := dt_mul hal
    refine lv_dstore (lv' := [(5, .double r3), (4, .int (nI (5 * q + o))), (0, .ref (a 0)), (1, .int (nI o)), (2, .int (nI q)), (3, .int use)]) hx hb dX1_replace_92 hl (by decide) rfl (fun ls hl => ?_)
    refine lv_aload_n hx hb dX1_replace_94 rfl (lv_at hl 2 rfl) ?_
    refine va_get (D := D) (ci := 1) (v := .ref (a 4)) (C := RX1) (T := TX1) (N := 12) hx hb (dr_words hts _) inX1 (xk_od hown) (xk_Kd hK) hP 0 rfl rfl 3 (by decide) (dr_words hts _ (.fieldLink RX1 20 "GridCommons" "bills" "[D") (by decide +kernel)) (fun _ h9 => h9) rfl dX1_replace_95 ?_
    refine lv_iload_n hx hb dX1_replace_98 rfl (lv_at hl 3 rfl) ?_
    refine lv_dup2_11 hx hb dX1_replace_99 rfl rfl ?_
    refine xk_dald hx hb (xk_Kd hK) hP 4 2 rfl rfl (o := o) (by omega) (by decide) dX1_replace_100 ?_
    refine lv_dload hx hb dX1_replace_101 (lv_at hl 0 rfl) ?_
    refine lv_dadd_any hd4 lw_bits hx hb dX1_replace_103 (fun r5 _ hal hd6 => ?_)
    have er5 := dt_add hal
    refine xk_dast hx hb (xk_Kd hK) hP hD hS 4 2 rfl rfl (o := o) (by omega) (by decide) dX1_replace_104 (fun H locs hP hD hS => ?_)
    have hP : va_P D vwCl (XW a cI cZ cD sh sw ts (vf_upd bi o r5) it tu ne pr so lo wt (nI n) lp lz (vf_upd lu (5 * q + o) (FP.i2d use)) (upd lk (5 * q + o) 1) ld lf lb lw) H := hP
    have hD : va_D A (XW a cI cZ cD sh sw ts (vf_upd bi o r5) it tu ne pr so lo wt (nI n) lp lz (vf_upd lu (5 * q + o) (FP.i2d use)) (upd lk (5 * q + o) 1) ld lf lb lw) := hD
    refine lv_dload hx hb dX1_replace_105 (lv_at hl 0 rfl) ?_
    have ec : dt r3 = dMul (dSub (dI use) (dts ld (5 * q + o))) (dts lp q) := by rw [er3, er1]; rfl
    refine W.endD hd6 ?_
    exact W.dret hx hb hr (fun t ht hW => ⟨⟨_, (vf_upd bi o r5), rfl, ⟨ec, by rw [dts_up, er5, ec]; rfl⟩, by rw [ht]; exact hP, va_K.moved hW.alike (xk_Kd hK), hD⟩, hS.F ht⟩) hS.2.2 dX1_replace_107
  · skip
    exact absurd hkn c
set_option maxHeartbeats 4000000 in
set_option maxRecDepth 100000 in
theorem mX1_replaceX (l : Launch) (hst : l.stackTraces = false) (D : va_G) (cI cZ cD : ClassId) (a : Nat → Nat) (Hp : Heap) (sh sw ts : Nat → Int32) (bi : Nat → UInt64) (it tu : Nat → Int32) (ne : Nat → UInt64) (pr so lo : UInt64) (wt : Int32) (lp lz lu : Nat → UInt64) (lk : Nat → Int32) (ld lf lb lw : Nat → UInt64) (n : Nat) (hn : n ≤ 60) (x q use : Int32) (hbad : ¬ (inR x 0 4 ∧ inR use 0 50 ∧ isQ n q ∧ ¬ kn lk x q)) : vx_Met l yX1_replace wsX1_replace ({ frames := 7, cells := 1, slots := 6, locals := 104 } : Room) (va_Pc [.ref (a 0), .int x, .int q, .int use] (XQ D cI cZ cD (XW a cI cZ cD sh sw ts bi it tu ne pr so lo wt (nI n) lp lz lu lk ld lf lb lw) Hp)) (va_Qd (fun _ (_ : Unit) => False) (fun _ _ => True) (fun q => Hp.size ≤ q)) (XE (fun E => (E = "java/lang/IllegalArgumentException" ∧ ¬ (inR x 0 4 ∧ inR use 0 50)) ∨ (E = "java/lang/IndexOutOfBoundsException" ∧ inR x 0 4 ∧ inR use 0 50 ∧ ¬ isQ n q) ∨ (E = "java/lang/IllegalStateException" ∧ inR x 0 4 ∧ inR use 0 50 ∧ isQ n q ∧ kn lk x q)) Hp.size) 1 6 (fun q => Hp.size ≤ q) := by
  refine vx_ofW (cc := cX1_replace) (maxL := 7) (ret := (some .double)) (by decide +kernel) rfl ?_
  intro p e s m args below meth c s₁ B hml htab hv
  obtain ⟨rfl, hsz, ⟨hP, hK, hD⟩, hE⟩ := hv
  have hx := B.exec
  have hb := B.bytes
  have hr := B.returns
  have hts := atoms_spec (ws := wsX1_replace) B.pre
  have hown : s.vm.findClass RX1 = some m.cls := findClass_of_methodNamed B.named
  have hlocks := B.notSynchronized
  subst hsz
  have hA : ∀ q : Nat, s.heap.size ≤ q → (fun q => s.heap.size ≤ q) q := fun q h => h
  have hS : va_S (fun q => s.heap.size ≤ q) s.heap s.heap [] := va_S.rf
  have hl := lv_entry ([.ref (a 0), .int x, .int q, .int use]) (n := 7) (Nat.le_of_ble_eq_true rfl)
  rw [lg_entry_eq]
  generalize (lg_sl ([.ref (a 0), .int x, .int q, .int use]) ++ List.replicate (7 - (lg_sl ([.ref (a 0), .int x, .int q, .int use])).length) Slot.unset).toArray = ls at hl ⊢
  have hl : lv_has ls 7 [(0, .ref (a 0)), (1, .int x), (2, .int q), (3, .int use)] := hl
  have inX1 : ∀ w ∈ wsX10, w ∈ wsX1_replace := by decide +kernel
  have inX0 : ∀ w ∈ wsX00, w ∈ wsX1_replace := by decide +kernel
  refine lv_iload_n hx hb dX1_replace_0 rfl (lv_at hl 1 rfl) ?_
  by_cases hin : inR x 0 4
  · skip
    refine va_csv (va_Run.run (va_runS (As := [.int x]) (rest := []) ⟨hx, hb, hml, hown, hts⟩ (mX1_requireOwnerV l x hin) (va_cwS 1 hts gX1_replace_X1_requireOwner rfl rfl rfl (by decide +kernel) ⟨Nat.le_of_ble_eq_true rfl, Nat.le_of_ble_eq_true rfl⟩) ⟨fun a U g mk q => q, fun U hU hW => ⟨rfl, trivial⟩⟩ rfl rfl hl.1 rfl (lv_room (Nat.le_of_ble_eq_true rfl)) dX1_replace_1 ⟨Nat.le_of_ble_eq_true rfl, Nat.le_of_ble_eq_true rfl⟩)) (fun _ => ?_)
    refine lv_iload_n hx hb dX1_replace_4 rfl (lv_at hl 3 rfl) ?_
    refine lv_iconst (v := nI 0) hx hb dX1_replace_5 (by decide) ?_
    refine lv_bipush (v := nI 50) hx hb dX1_replace_6 (by decide) ?_
    by_cases hus : inR use 0 50
    · skip
      refine va_csv (va_Run.run (va_runS (As := [.int use, .int (nI 0), .int (nI 50)]) (rest := []) ⟨hx, hb, hml, hown, hts⟩ (mX1_requireWithinV l use (nI 0) (nI 50) hus) (va_cwS 3 hts gX1_replace_X1_requireWithin rfl rfl rfl (by decide +kernel) ⟨Nat.le_of_ble_eq_true rfl, Nat.le_of_ble_eq_true rfl⟩) ⟨fun a U g mk q => q, fun U hU hW => ⟨rfl, trivial⟩⟩ rfl rfl hl.1 rfl (lv_room (Nat.le_of_ble_eq_true rfl)) dX1_replace_8 ⟨Nat.le_of_ble_eq_true rfl, Nat.le_of_ble_eq_true rfl⟩)) (fun _ => ?_)
      refine lv_aload_n hx hb dX1_replace_11 rfl (lv_at hl 0 rfl) ?_
      refine lv_iload_n hx hb dX1_replace_12 rfl (lv_at hl 2 rfl) ?_
      by_cases hqq : isQ n q
      · skip
        refine va_csv (va_Run.run (va_runV (As := [.int q]) (rest := []) ⟨hx, hb, hml, hown, hts⟩ (mX1_requireQuarterV l D cI cZ cD a _ sh sw ts bi it tu ne pr so lo wt lp lz lu lk ld lf lb lw n q hqq) (cwV 1 hts gX1_replace_X1_requireQuarter rfl rfl rfl (by decide +kernel) ⟨Nat.le_of_ble_eq_true rfl, Nat.le_of_ble_eq_true rfl⟩) ⟨xk_blind, va_recv hK hP (ci := 1) (q0 := 0) rfl rfl, xk_pre hP hK hD⟩ rfl rfl hl.1 rfl (lv_room (Nat.le_of_ble_eq_true rfl)) dX1_replace_13 ⟨Nat.le_of_ble_eq_true rfl, Nat.le_of_ble_eq_true rfl⟩)) (fun _ => ?_)
        obtain ⟨o, ho4, rfl⟩ := inR_nI (n := 4) (by decide) hin
        have ho : o < 5 := by omega
        obtain ⟨j, hj, rfl⟩ := isQ_nI (by omega) hqq
        refine lv_iload_n hx hb dX1_replace_16 rfl (lv_at hl 1 rfl) ?_
        refine lv_iload_n hx hb dX1_replace_17 rfl (lv_at hl 2 rfl) ?_
        refine vp_callSi (va_Run.run (va_runS (As := [.int (nI o), .int (nI j)]) (rest := []) ⟨hx, hb, hml, hown, hts⟩ (mX0_slot l o j) (va_cwS 2 hts gX1_replace_X0_slot rfl rfl rfl (by decide +kernel) ⟨Nat.le_of_ble_eq_true rfl, Nat.le_of_ble_eq_true rfl⟩) ⟨fun a U g mk q => q, fun U hU hW => ⟨rfl, trivial⟩⟩ rfl rfl hl.1 rfl (lv_room (Nat.le_of_ble_eq_true rfl)) dX1_replace_18 ⟨Nat.le_of_ble_eq_true rfl, Nat.le_of_ble_eq_true rfl⟩)) (fun r hr1 => ?_)
        subst hr1
        refine lv_istore (lv' := [(4, .int (nI (5 * j + o))), (0, .ref (a 0)), (1, .int (nI o)), (2, .int (nI j)), (3, .int use)]) hx hb dX1_replace_21 hl (by decide) rfl (fun ls hl => ?_)
        refine lv_aload_n hx hb dX1_replace_23 rfl (lv_at hl 1 rfl) ?_
        refine va_get (D := D) (ci := 1) (v := .ref (a 8)) (C := RX1) (T := TX1) (N := 12) hx hb hts inX1 hown hK hP 0 rfl rfl 6 (by decide) (hts (.fieldLink RX1 33 "GridCommons" "ledger" "LGridCommons$Ledger;") (by decide +kernel)) (fun _ h9 => h9) rfl dX1_replace_24 ?_
        refine va_get (D := D) (ci := 0) (v := .ref (a 12)) (C := RX0) (T := TX0) (N := 9) hx hb hts inX0 hown hK hP 8 rfl rfl 4 (by decide) (hts (.fieldLink RX1 120 "GridCommons$Ledger" "known" "[Z") (by decide +kernel)) (fun _ h9 => h9) rfl dX1_replace_27 ?_
        refine lv_iload hx hb dX1_replace_30 (lv_at hl 0 rfl) ?_
        refine xk_zald hx hb hK hP 12 1 rfl rfl (o := (5 * j + o)) (by omega) (by decide) dX1_replace_32 ?_
        refine lv_if_eq (tgt := 46) hx hb dX1_replace_33 (by decide) (fun c => ?_) (fun c => ?_)
        · skip
          exact absurd ⟨hin, hus, hqq, fun z => (kn_nI ho (by omega)).mp z c⟩ hbad
        · skip
          obtain ⟨sa, hstr⟩ := hE.2.2.2 (123, "the use was told, or the gap was replaced") (by decide)
          have hat0 : ∀ w ∈ (vx_atS RX1 72 "java/lang/IllegalStateException" ["java/lang/RuntimeException", "java/lang/Exception"]).filter goodWord, w ∈ wsX1_replace := by decide +kernel
          exact vx_throwS (text := "the use was told, or the gap was replaced") (names := ["java/lang/RuntimeException", "java/lang/Exception"]) hx hb hst hown (by decide +kernel) (by decide +kernel) (hts (.classLink RX1 68 "java/lang/IllegalStateException") (by decide +kernel)) (hts (.initialized "java/lang/IllegalStateException") (by decide +kernel)) hstr (vx_hat (B := exW) (fun w h => hts w (hat0 w h)) (by decide +kernel) hE.words) (by decide +kernel) hE.1 hE.2.1 hS (hl.1.trans hml.symm) dX1_replace_36 dX1_replace_39 dX1_replace_40 dX1_replace_42 dX1_replace_45 (fun x h => (htab x h).elim) (Nat.le_of_ble_eq_true rfl) (Nat.le_of_ble_eq_true rfl) (Nat.le_of_ble_eq_true rfl) (Nat.le_of_ble_eq_true rfl) hlocks (fun t ht hz hk => ⟨(), trivial, Or.inr (Or.inr ⟨rfl, hin, hus, hqq, (kn_nI ho (by omega)).mpr c⟩), hz, fun q h1 _ => hk q h1⟩) hS.2.2 (Nat.le_refl _) (Nat.le_refl _)
      · skip
        exact vx_callv (vx_runV (As := [.int q]) (rest := []) ⟨hx, hb, hml, hown, hts⟩ (mX1_requireQuarterX l hst D cI cZ cD a s.heap sh sw ts bi it tu ne pr so lo wt lp lz lu lk ld lf lb lw n q hqq) (cwV 1 hts gX1_replace_X1_requireQuarter rfl rfl rfl (by decide +kernel) ⟨Nat.le_of_ble_eq_true rfl, Nat.le_of_ble_eq_true rfl⟩) ⟨xq_blind, va_recv hK hP (ci := 1) (q0 := 0) rfl rfl, xq_pre hP hK hD hE hS hA⟩ rfl rfl hl.1 rfl (lv_room (Nat.le_of_ble_eq_true rfl)) dX1_replace_13 ⟨Nat.le_of_ble_eq_true rfl, Nat.le_of_ble_eq_true rfl⟩) hS (fun q h1 h2 => absurd h2 (Nat.not_le.mpr h1)) (fun q h => hA q (Nat.le_trans hS.1 h)) (fun q h1 h2 => absurd h2 (Nat.not_le.mpr h1)) (fun E ce q9 u9 t9 H9 locs9 ht9 hvm9 hpx9 hB9 hz9 hk9 hS9 hce9 hcv9 hcl9 => vx_out (fun x h => (htab x h).elim) hlocks hce9 hcv9 hcl9 (fun t8 ht8 hvm8 => ⟨(), trivial, Or.inr (Or.inl ⟨hB9, hin, hus, hqq⟩), by rw [ht8]; exact hz9, fun q h1 h2 => by rw [ht8]; exact hk9 q h1 h2⟩) hS9.2.2 (Nat.le_refl _) (Nat.le_refl _)) (fun u t H1 locs1 ht hvm hw hB hz1 hk1 hS1 => hw.elim)
    · skip
      exact vx_callv (vx_runS (As := [.int use, .int (nI 0), .int (nI 50)]) (rest := []) ⟨hx, hb, hml, hown, hts⟩ (mX1_requireWithin l hst s.heap use (nI 0) (nI 50)) (va_cwS 3 hts gX1_replace_X1_requireWithin rfl rfl rfl (by decide +kernel) ⟨Nat.le_of_ble_eq_true rfl, Nat.le_of_ble_eq_true rfl⟩) ⟨xh_blind, xh_pre hE hS hA⟩ rfl rfl hl.1 rfl (lv_room (Nat.le_of_ble_eq_true rfl)) dX1_replace_8 ⟨Nat.le_of_ble_eq_true rfl, Nat.le_of_ble_eq_true rfl⟩) hS (fun q h1 h2 => absurd h2 (Nat.not_le.mpr h1)) (fun q h => hA q (Nat.le_trans hS.1 h)) (fun q h1 h2 => absurd h2 (Nat.not_le.mpr h1)) (fun E ce q9 u9 t9 H9 locs9 ht9 hvm9 hpx9 hB9 hz9 hk9 hS9 hce9 hcv9 hcl9 => vx_out (fun x h => (htab x h).elim) hlocks hce9 hcv9 hcl9 (fun t8 ht8 hvm8 => ⟨(), trivial, Or.inl ⟨hB9.1, fun z => hB9.2 z.2⟩, by rw [ht8]; exact hz9, fun q h1 h2 => by rw [ht8]; exact hk9 q h1 h2⟩) hS9.2.2 (Nat.le_refl _) (Nat.le_refl _)) (fun u t H1 locs1 ht hvm hw hB hz1 hk1 hS1 => absurd hw hus)
  · skip
    exact vx_callv (vx_runS (As := [.int x]) (rest := []) ⟨hx, hb, hml, hown, hts⟩ (mX1_requireOwner l hst s.heap x) (va_cwS 1 hts gX1_replace_X1_requireOwner rfl rfl rfl (by decide +kernel) ⟨Nat.le_of_ble_eq_true rfl, Nat.le_of_ble_eq_true rfl⟩) ⟨xh_blind, xh_pre hE hS hA⟩ rfl rfl hl.1 rfl (lv_room (Nat.le_of_ble_eq_true rfl)) dX1_replace_1 ⟨Nat.le_of_ble_eq_true rfl, Nat.le_of_ble_eq_true rfl⟩) hS (fun q h1 h2 => absurd h2 (Nat.not_le.mpr h1)) (fun q h => hA q (Nat.le_trans hS.1 h)) (fun q h1 h2 => absurd h2 (Nat.not_le.mpr h1)) (fun E ce q9 u9 t9 H9 locs9 ht9 hvm9 hpx9 hB9 hz9 hk9 hS9 hce9 hcv9 hcl9 => vx_out (fun x h => (htab x h).elim) hlocks hce9 hcv9 hcl9 (fun t8 ht8 hvm8 => ⟨(), trivial, Or.inl ⟨hB9.1, fun z => hB9.2 z.1⟩, by rw [ht8]; exact hz9, fun q h1 h2 => by rw [ht8]; exact hk9 q h1 h2⟩) hS9.2.2 (Nat.le_refl _) (Nat.le_refl _)) (fun u t H1 locs1 ht hvm hw hB hz1 hk1 hS1 => absurd hw hin)
