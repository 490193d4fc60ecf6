/-! THE CLAIM OUT OF ONE WALK OF THE LAW'S BODY. Your part is whole_start (and what it stands on); all else here is the same for every law, but numbers. -/
def R_law : String := "GridCommonsLaw"
def lw_P (b : Addr) (xs : List Int32) (args : Array Value) (s : State) : Prop := args = #[.ref b] ∧ s.IntsAt b xs ∧ xs.length ≤ 2048 ∧ (Jvm.Cond.and given_1 narrow_1).before args s = true
/-- what a walk over the start with the record d0 says of its end, said of the start itself -/
theorem lw_closed {s t : State} {o : Outcome} {d0 : Drawn} {L : List Loc} {k n : Nat} (hd0 : s.drawn.sameBut d0 lw_cs) (hv : ∃ v, o = .returned v) (hW : (s.setDrawn d0).WarmedH t.vm) (hs : (s.setDrawn d0).sameButNew ({ t with vm := s.vm } : State) L k n) : State.butDraws s t lw_cs (fun t1 => Framed s o t1 L k n) := by
  have h2 : t.drawn = d0 := congrArg State.drawn hs.1
  refine ⟨⟨hv, hW, State.sameButNew.setDrawn hs s.drawn⟩, ?_, by decide⟩
  rw [h2]
  exact hd0
def lw_Q (_ : Array Value) (s : State) (o : Outcome) (t : State) : Prop := o = .returned (some (.int 1)) ∧ State.butDraws s t lw_cs (fun t1 => Framed s o t1 [] 1065 12181)
def lw_Z (below : List Frame) (a : Array Value) (s : State) : State → Prop := fun t => ∃ o, t.status = .running ∧ Ended t below o ∧ lw_Q a s o t
/-- the law's own end, with 1 on the stack, nothing written that was there before, its room as the claim has it; d0: the record of draws at this point (at the entry s.drawn: begin with 'refine W.base ?_' and 'have hd0 := Drawn.sameBut.refl s.drawn lw_cs') -/
theorem lw_ret {p : Program} {l : Launch} {e : Env} {s : State} {m : MethodId} {below : List Frame} {meth : Method} {c : Code} {b : Nat} {d0 : Drawn} (hd0 : s.drawn.sameBut d0 lw_cs) (hx : p.tables.exec = Jvm.exec) (hb : c.code = code) (hr : meth.sig.returnType = ret) (hlocks : meth.locks = false) {pc : Nat} {H : Heap} {ls : Array Slot} (hdg : decode code pc = .ok (.ireturn, 1)) : W p l e room_1 (s.setDrawn d0) m #[Value.ref b] below meth c H [] 1065 12181 (lw_Z below #[Value.ref b] s) (F0 m pc ls [.int 1]) := by
  intro T hT X
  obtain ⟨fs, hret, hrun, hended, hW, hframe⟩ := X.leave (v := some (.int 1)) (hlocks := hlocks) (fun h => by rw [hr] at h; cases h)
  have hmeth' : T.vm.method? m = some meth := X.method'
  refine ⟨T.setFrames fs, ?_, .returned (some (.int 1)), hrun, hended, rfl, lw_closed hd0 ⟨_, rfl⟩ hW hframe⟩
  jvm_step X.here [X.here.top, hx, hb, hdg, hmeth', hr, ret, narrow_b1]
  (try refine ⟨rfl, ?_⟩); (try refine ⟨rfl, ?_⟩)
  first | (intro acts; rw [hret _ acts rfl rfl rfl]) | rw [hret _ _ rfl rfl rfl]
  exact Steps.refl _
/-- what holds at the law's entry: the machine, the code, the tables' words (any of lw_tbl by 'hts w (by decide +kernel)'), the script of L ints xs at the cell b, what the Statement gives of the start (any of its parts by flat_of_before) -/
def lw_At (p : Program) (s : State) (m : MethodId) (meth : Method) (c : Code) (b L : Nat) (xs : Nat → Int32) : Prop :=
  p.tables.exec = Jvm.exec ∧ c.code = code ∧ meth.sig.returnType = ret ∧ c.maxLocals = 10 ∧ s.vm.findClass R_law = some m.cls ∧ (∀ w ∈ lw_tbl, w.before #[Value.ref b] s = true) ∧ va_X b L xs s s.heap ∧ b < s.heap.size ∧ meth.locks = false ∧ (Jvm.Cond.and given_1 narrow_1).before #[Value.ref b] s = true

/-! THE LAW'S WORLD -/
theorem xk_l {p : Program} {l : Launch} {e : Env} {R : Room} {s : State} {m : MethodId} {args : Array Value} {below : List Frame} {meth : Method} {c : Code} {H : Heap} {locs : List Loc} {cells slots : Nat} {Q : State → Prop} {pc : Nat} {ls : Array Slot} {rest : List Value} {x y : Int64} (h : x = y) (k : W p l e R s m args below meth c H locs cells slots Q (F0 m pc ls (.long y :: rest))) : W p l e R s m args below meth c H locs cells slots Q (F0 m pc ls (.long x :: rest)) := h ▸ k
/-- a loop of at most n turns whose cells and slots grow -/
theorem xk_loopC {p : Program} {l : Launch} {e : Env} {R : Room} {s : State} {m : MethodId} {args : Array Value} {below : List Frame} {meth : Method} {c : Code} {Q : State → Prop} {pc : Nat} {rest : List Value} (Inv : Nat → Heap → List Loc → Array Slot → Drawn → Prop) (fc fs : Nat → Nat) (n : Nat)
    (step : ∀ (i : Nat) (H : Heap) (locs : List Loc) (ls : Array Slot) (d : Drawn), i ≤ n → Inv i H locs ls d → (∀ (H' : Heap) (locs' : List Loc) (ls' : Array Slot) (d' : Drawn), i < n → Inv (i + 1) H' locs' ls' d' → W p l e R (s.setDrawn d') m args below meth c H' locs' (fc (i + 1)) (fs (i + 1)) Q (F0 m pc ls' rest)) → W p l e R (s.setDrawn d) m args below meth c H locs (fc i) (fs i) Q (F0 m pc ls rest))
    {i : Nat} {H : Heap} {locs : List Loc} {ls : Array Slot} {d : Drawn} (hi : i ≤ n) (h : Inv i H locs ls d) : W p l e R (s.setDrawn d) m args below meth c H locs (fc i) (fs i) Q (F0 m pc ls rest) := by
  obtain ⟨k, hk⟩ : ∃ k, k = n - i := ⟨_, rfl⟩
  induction k generalizing i H locs ls d with
  | zero => exact step i H locs ls d hi h (fun _ _ _ _ h9 _ => absurd h9 (by omega))
  | succ k ih => exact step i H locs ls d hi h (fun H' locs' ls' d' h9 h8 => ih (i := i + 1) (H := H') (locs := locs') (ls := ls') (d := d') (by omega) h8 (by omega))
theorem EX.drawn {A : Nat → Prop} {s : State} {H : Heap} {d : Drawn} (h : EX A s H) : EX A (s.setDrawn d) H := by
  obtain ⟨h1, h2, h3, h4⟩ := h
  refine ⟨vx_Zq.moved (u := s) (U := s.setDrawn d) (Vm.Alike.refl s.vm) h1, vx_Zq.moved (u := s) (U := s.setDrawn d) (Vm.Alike.refl s.vm) h2, fun w hw => va_tabs (u := s) (exW_face w hw).2 rfl (h3 w hw), fun q hq => ?_⟩
  obtain ⟨sa, h9⟩ := h4 q hq
  exact ⟨sa, vk_R.same (u := s) rfl h9⟩
theorem EN.drawn {s : State} {d : Drawn} (h : EN s) : EN (s.setDrawn d) := EN.moved (u := s) (U := s.setDrawn d) (Vm.Alike.refl s.vm) h
theorem X_drawn {b L : Nat} {xs : Nat → Int32} {s : State} {H : Heap} {d : Drawn} (h : va_X b L xs s H) : va_X b L xs (s.setDrawn d) H := va_X.moved (u := s) (U := s.setDrawn d) (Vm.Alike.refl s.vm) h
theorem iinc4 (i : Nat) : nI (4 * i) + Int32.ofInt 4 = nI (4 * (i + 1)) := nI_add (4 * i) 4
theorem law_gt {L i : Nat} (hL : L ≤ 2048) (hi : 4 * i ≤ L) : (nI L - nI 4 < nI (4 * i)) ↔ ¬ 4 * i + 4 ≤ L := by
  by_cases h : 4 ≤ L
  · rw [pk_sub h, nI_ltI (by omega) (by omega)]
    omega
  · have h0 : i = 0 := by omega
    subst h0
    refine ⟨fun _ => by omega, fun _ => ?_⟩
    rcases (show L = 0 ∨ L = 1 ∨ L = 2 ∨ L = 3 by omega) with rfl | rfl | rfl | rfl <;> decide
theorem lcmp_self (x : Int64) : lg_cmp x x = 0 := by
  unfold lg_cmp
  simp
theorem nan_ne {x : UInt64} (h : dt x = .nan) : ¬ Op.cmpValue (FP.dcmp x x) .l = 0 := fun c => by
  have q2 : dCmp (dt x) (dt x) = some .eq := (cv_l_eq _).mp c
  rw [h] at q2
  cases q2
theorem two_a {P Q : Prop} {r u : Int32} (h : (r = 1 ∧ ¬ P) ∨ (r = 2 ∧ P ∧ Q)) (h' : (u = 1 ∧ ¬ P) ∨ (u = 2 ∧ P ∧ Q)) : u = r ∧ ¬ r = 0 := by
  rcases h with ⟨rfl, h⟩ | ⟨rfl, h⟩ <;> rcases h' with ⟨rfl, h'⟩ | ⟨rfl, h'⟩
  · exact ⟨rfl, by decide⟩
  · exact absurd h'.1 h
  · exact absurd h.1 h'
  · exact ⟨rfl, by decide⟩
theorem two_b {A B C : Prop} {r u : Int32} (h : (r = 1 ∧ ¬ (A ∧ B)) ∨ (r = 2 ∧ A ∧ B ∧ C)) (h' : (u = 1 ∧ ¬ (A ∧ B)) ∨ (u = 2 ∧ A ∧ B ∧ C)) : u = r ∧ ¬ r = 0 := by
  rcases h with ⟨rfl, h⟩ | ⟨rfl, h⟩ <;> rcases h' with ⟨rfl, h'⟩ | ⟨rfl, h'⟩
  · exact ⟨rfl, by decide⟩
  · exact absurd ⟨h'.1, h'.2.1⟩ h
  · exact absurd ⟨h.1, h.2.1⟩ h'
  · exact ⟨rfl, by decide⟩
theorem three {A B C E : Prop} {r u : Int32} (h : (r = 1 ∧ ¬ (A ∧ B)) ∨ (r = 2 ∧ A ∧ B ∧ ¬ C) ∨ (r = 3 ∧ A ∧ B ∧ C ∧ E)) (h' : (u = 1 ∧ ¬ (A ∧ B)) ∨ (u = 2 ∧ A ∧ B ∧ ¬ C) ∨ (u = 3 ∧ A ∧ B ∧ C ∧ E)) : u = r ∧ ¬ r = 0 := by
  rcases h with ⟨rfl, h⟩ | ⟨rfl, h⟩ | ⟨rfl, h⟩ <;> rcases h' with ⟨rfl, h'⟩ | ⟨rfl, h'⟩ | ⟨rfl, h'⟩
  · exact ⟨rfl, by decide⟩
  · exact absurd ⟨h'.1, h'.2.1⟩ h
  · exact absurd ⟨h'.1, h'.2.1⟩ h
  · exact absurd ⟨h.1, h.2.1⟩ h'
  · exact ⟨rfl, by decide⟩
  · exact absurd h'.2.2.1 h.2.2
  · exact absurd ⟨h.1, h.2.1⟩ h'
  · exact absurd h.2.2.1 h'.2.2
  · exact ⟨rfl, by decide⟩
abbrev WL (o9 o8 : Nat) (cJ : ClassId) (a b : Nat → Nat) (cI cZ cD : ClassId) (sh sw ts : Nat → Int32) (bi : Nat → UInt64) (it tu : Nat → Int32) (ne : Nat → UInt64) (pr so lo : UInt64) (wt cn : Int32) (lp lz lu : Nat → UInt64) (lk : Nat → Int32) (ld lf lb lw : Nat → UInt64) (mth : Int32) (msh mst msd : Nat → Int32) (mbi : Nat → UInt64) (mpr mba : UInt64) (mtn mcl : Int32) (mat mto mak : Nat → Int32) (mus mud mfs mfb mbo mso mpc mne : Nat → UInt64) (fo : Nat → Int64) (fd : Nat → UInt64) : va_W := XW a cI cZ cD sh sw ts bi it tu ne pr so lo wt cn lp lz lu lk ld lf lb lw ++ (MW b cI cZ cD mth msh mst msd mbi mpr mba mtn mcl mat mto mak mus mud mfs mfb mbo mso mpc mne ++ [(o9, .inl (cJ, 1, .inr (.inl fo))), (o8, .inl (cD, 1, .inr (.inr (.inr (.inl fd)))))])
/-- how the two sides go together -/
def LI (n t : Nat) (sw mst : Nat → Int32) (bi mbi : Nat → UInt64) (it : Nat → Int32) (pr mpr so mba : UInt64) (lu mus ld mud lf mfs lb mfb lw mbo lz mso lp mpc : Nat → UInt64) : Prop := n ≤ 60 ∧ t < 5 ∧ (∀ k, k < 5 → sw k = bI (mst k = 0)) ∧ (∀ j, sw j = 0 ∨ sw j = 1) ∧ (∀ j, it j = 0 ∨ it j = 1) ∧ dts bi = dts mbi ∧ dt pr = dt mpr ∧ dt so = dt mba ∧ dts lu = dts mus ∧ dts ld = dts mud ∧ (∀ j, nz (dts lf j) (dts mfs j)) ∧ (∀ j, 5 * n ≤ j → dts lf j = dZ) ∧ dts lb = dts mfb ∧ dts lw = dts mbo ∧ dts lz = dts mso ∧ dts lp = dts mpc
def LInv (s : State) (D : va_G) (cI cZ cD cJ : ClassId) (a b : Nat → Nat) (b9 o9 o8 : Nat) (i : Nat) (H : Heap) (locs : List Loc) (ls : Array Slot) (d : Drawn) : Prop :=
  ∃ (n t : Nat) (sh sw ts : Nat → Int32) (bi : Nat → UInt64) (it tu : Nat → Int32) (ne : Nat → UInt64) (pr so lo : UInt64) (lp lz lu : Nat → UInt64) (lk : Nat → Int32) (ld lf lb lw : Nat → UInt64) (mth : Int32) (mst : Nat → Int32) (mbi : Nat → UInt64) (mpr mba : UInt64) (mus mud mfs mfb mbo mso mpc mne : Nat → UInt64) (fo : Nat → Int64) (fd : Nat → UInt64), LI n t sw mst bi mbi it pr mpr so mba lu mus ld mud lf mfs lb mfb lw mbo lz mso lp mpc ∧ va_P D vwCl (WL o9 o8 cJ a b cI cZ cD sh sw ts bi it tu ne pr so lo (nI t) (nI n) lp lz lu lk ld lf lb lw mth sh mst ts mbi mpr mba (nI t) (nI n) it tu lk mus mud mfs mfb mbo mso mpc mne fo fd) H ∧ va_D (fun q => s.heap.size ≤ q) (WL o9 o8 cJ a b cI cZ cD sh sw ts bi it tu ne pr so lo (nI t) (nI n) lp lz lu lk ld lf lb lw mth sh mst ts mbi mpr mba (nI t) (nI n) it tu lk mus mud mfs mfb mbo mso mpc mne fo fd) ∧ va_S (fun q => s.heap.size ≤ q) s.heap H locs ∧ s.drawn.sameBut d lw_cs ∧ lv_has ls 10 [(0, .ref b9), (1, .ref (a 0)), (2, .ref (b 0)), (3, .ref o9), (4, .ref o8), (5, .int (nI (4 * i)))]
/-- where the law stands -/
def LC (l : Launch) (p : Program) (s : State) (m : MethodId) (meth : Method) (c : Code) (b9 L : Nat) (xs : Nat → Int32) (D : va_G) (cI cZ cD cJ : ClassId) : Prop := l.stackTraces = false ∧ L ≤ 2048 ∧ lw_At p s m meth c b9 L xs ∧ EX (fun q => s.heap.size ≤ q) s s.heap ∧ EN s ∧ va_K D vwCl (T4 cI cZ cD cJ) s
theorem en_ok2 (x : Dm) : dOk (en x) := ⟨_, rfl⟩
theorem kF_rel {sun : Int32} {sh : Nat → Int32} {V : Nat → Dm} {n : Nat} {F G : Nat → Dm} (hV : ∀ k, k < 5 → dOk (V k)) (hz : ∀ j, nz (F j) (G j)) (hd : ∀ j, 5 * n ≤ j → F j = dZ) : (∀ j, nz (kF sun sh V n F j) (po (5 * n) 5 G (sF sun sh V) j)) ∧ (∀ j, 5 * (n + 1) ≤ j → kF sun sh V n F j = dZ) := by
  have hu : ∀ k, k < 5 → dOk (uS sun sh V k) := by
    intro k hk
    unfold uS dMin
    by_cases c : dCmp (dDiv (dMul (dI sun) (dI (sh k))) d4) (V k) = some .lt
    · rw [if_pos c]; exact en_ok2 _
    · rw [if_neg c]; exact hV k hk
  have hg : ∀ k, k < 5 → dOk (gE (kV2 sun sh V) (kL1 sun sh V) k) := by
    intro k hk
    unfold gE
    by_cases c : enough (kV2 sun sh V) (kL1 sun sh V)
    · rw [if_pos c]; exact en_ok2 _
    · rw [if_neg c]; exact en_ok2 _
  have hS : ∀ k, k < 5 → fS sun sh V n F (5 * n + k) = dAdd dZ (uS sun sh V k) := by
    intro k hk
    unfold fS
    rw [po_in _ _ hk, hd _ (by omega)]
  have h0 : ∀ k, k < 5 → nz (dAdd dZ (uS sun sh V k)) (uS sun sh V k) := by
    intro k hk
    rw [dZ_fin]
    exact dAdd_zero (hu k hk) false
  have hout : ∀ j, ¬ (5 * n ≤ j ∧ j < 5 * n + 5) → kF sun sh V n F j = F j := by
    intro j hj
    unfold kF fE
    by_cases c : noNeed (kV2 sun sh V)
    · rw [if_pos c]; unfold fS po; rw [if_neg hj]
    · rw [if_neg c]; unfold po; rw [if_neg hj]; unfold fS po; rw [if_neg hj]
  refine ⟨fun j => ?_, fun j hj => by rw [hout j (by omega)]; exact hd j (by omega)⟩
  by_cases hj : 5 * n ≤ j ∧ j < 5 * n + 5
  · obtain ⟨k, hk, rfl⟩ : ∃ k, k < 5 ∧ j = 5 * n + k := ⟨j - 5 * n, by omega, by omega⟩
    rw [po_in _ _ hk]
    unfold kF fE sF
    by_cases c : noNeed (kV2 sun sh V)
    · rw [if_pos c, if_pos c, hS k hk]; exact h0 k hk
    · rw [if_neg c, if_neg c, po_in _ _ hk, hS k hk]
      exact dAdd_nz (h0 k hk) (en_ok2 _) (hu k hk) (hg k hk)
  · rw [hout j hj]
    unfold po
    rw [if_neg hj]
    exact hz j
theorem tnx_lt {t : Nat} (ht : t < 5) : ∀ y : Option Nat, tnx t y < 5
  | none => ht
  | some o => Nat.mod_lt _ (by decide)
theorem kB_t {sun : Int32} {sh : Nat → Int32} {V : Nat → Dm} {S : Dm} {G : Nat → Dm} {t n : Nat} (ht : t < 5) : (kB sun sh V S G t n).2.2.2 < 5 := by
  unfold kB gB
  split
  · exact tnx_lt ht _
  · exact ht
theorem dts_e {f g : Nat → UInt64} (h : dts f = dts g) (k : Nat) : dt (f k) = dt (g k) := congrFun h k
