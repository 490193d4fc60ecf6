/-! THE LAW'S KIT: starts of its methods, loops whose room grows -/
theorem xk_d {p : Program} {l : Launch} {e : Env} {R : Room} {s : State} {m : MethodId} {args : Array Value} {below : List Frame} {meth : Method} {c : Code} {H : Heap} {locs : List Loc} {cells slots : Nat} {Q : State → Prop} {pc : Nat} {ls : Array Slot} {rest : List Value} {x y : UInt64} (h : x = y) (k : W p l e R s m args below meth c H locs cells slots Q (F0 m pc ls (.double y :: rest))) : W p l e R s m args below meth c H locs cells slots Q (F0 m pc ls (.double x :: rest)) := h ▸ k
/-- which handlers pass by which exceptions -/
def EN (U : State) : Prop := va_Nc "java/lang/IllegalArgumentException" "java/lang/IndexOutOfBoundsException" U ∧ va_Nc "java/lang/IllegalStateException" "java/lang/IndexOutOfBoundsException" U ∧ va_Nc "java/lang/IllegalStateException" "java/lang/IllegalArgumentException" U
theorem EN.moved {u U : State} (hvm : u.vm.Alike U.vm) (h : EN u) : EN U := ⟨h.1.moved hvm, h.2.1.moved hvm, h.2.2.moved hvm⟩
theorem EX.drawn {A : Nat → Prop} {s : State} {H : Heap} {d : Drawn} (h : EX A s H) : EX A (s.setDrawn d) H := by
  obtain ⟨h1, h2, h3, h4⟩ := h
  refine ⟨vx_Zq.moved (u := s) (U := s.setDrawn d) (Vm.Alike.refl s.vm) h1, vx_Zq.moved (u := s) (U := s.setDrawn d) (Vm.Alike.refl s.vm) h2, fun w hw => va_tabs (u := s) (exW_face w hw).2 rfl (h3 w hw), fun q hq => ?_⟩
  obtain ⟨sa, h9⟩ := h4 q hq
  exact ⟨sa, vk_R.same (u := s) rfl h9⟩
theorem EN.drawn {s : State} {d : Drawn} (h : EN s) : EN (s.setDrawn d) := EN.moved (u := s) (U := s.setDrawn d) (Vm.Alike.refl s.vm) h
theorem X_drawn {b L : Nat} {xs : Nat → Int32} {s : State} {H : Heap} {d : Drawn} (h : va_X b L xs s H) : va_X b L xs (s.setDrawn d) H := va_X.moved (u := s) (U := s.setDrawn d) (Vm.Alike.refl s.vm) h
/-- a start that may throw and that changes its world -/
abbrev LQ (D : va_G) (cI cZ cD : ClassId) (w : va_W) (sz : Nat) (U : State) : Prop := U.heap.size = sz ∧ XB D cI cZ cD w (fun _ => True) U ∧ EX (va_A w sz) U U.heap ∧ EN U
theorem lp_blind {av : List Value} {D : va_G} {cI cZ cD : ClassId} {w : va_W} {sz : Nat} : FrameBlind (va_Pc av (LQ D cI cZ cD w sz)) := fun a U g mk q => by
  obtain ⟨q0, q1, ⟨qP, qK, qD⟩, q2, q3⟩ := q
  exact ⟨q0, q1, ⟨qP, va_K.moved (u := U) (U := U.calling g mk a) (Vm.Alike.refl U.vm) qK, qD⟩, q2.blind, q3.moved (Vm.Alike.refl U.vm)⟩
theorem lp_pre {av : List Value} {D : va_G} {cI cZ cD : ClassId} {w : va_W} {A A1 : Nat → Prop} {H : Heap} {s : State} {locs : List Loc} (hP : va_P D vwCl w H) (hK : va_K D vwCl (T3 cI cZ cD) s) (hD : va_D A1 w) (hE : EX A s s.heap) (hN : EN s) (hS : va_S A s.heap H locs) (hF : ∀ q, va_A w H.size q → A q) : ∀ U : State, U.heap = H → s.WarmedH U.vm → va_Pc av (LQ D cI cZ cD w H.size) av.toArray U :=
  fun U hU hW => ⟨rfl, by rw [hU], ⟨by rw [hU]; exact hP, va_K.moved hW.alike hK, hD.weaken (fun _ _ _ _ => trivial)⟩, hE.pass hS hU hW hF, hN.moved hW.alike⟩
/-- .. that only looks -/
abbrev ZQ (D : va_G) (cI cZ cD : ClassId) (w : va_W) (Hp : Heap) (U : State) : Prop := U.heap = Hp ∧ XB D cI cZ cD w (fun _ => True) U ∧ EX (fun q => Hp.size ≤ q) U U.heap ∧ EN U
theorem zq_blind {av : List Value} {D : va_G} {cI cZ cD : ClassId} {w : va_W} {Hp : Heap} : FrameBlind (va_Pc av (ZQ D cI cZ cD w Hp)) := fun a U g mk q => by
  obtain ⟨q0, q1, ⟨qP, qK, qD⟩, q2, q3⟩ := q
  exact ⟨q0, q1, ⟨qP, va_K.moved (u := U) (U := U.calling g mk a) (Vm.Alike.refl U.vm) qK, qD⟩, q2.blind, q3.moved (Vm.Alike.refl U.vm)⟩
theorem zq_pre {av : List Value} {D : va_G} {cI cZ cD : ClassId} {w : va_W} {A A1 : Nat → Prop} {H : Heap} {s : State} {locs : List Loc} (hP : va_P D vwCl w H) (hK : va_K D vwCl (T3 cI cZ cD) s) (hD : va_D A1 w) (hE : EX A s s.heap) (hN : EN s) (hS : va_S A s.heap H locs) (hA : ∀ q, s.heap.size ≤ q → A q) : ∀ U : State, U.heap = H → s.WarmedH U.vm → va_Pc av (ZQ D cI cZ cD w H) av.toArray U :=
  fun U hU hW => ⟨rfl, hU, ⟨by rw [hU]; exact hP, va_K.moved hW.alike hK, hD.weaken (fun _ _ _ _ => trivial)⟩, hE.pass hS hU hW (fun q hq => hA q (Nat.le_trans hS.1 hq)), hN.moved hW.alike⟩
/-- a loop of at most n turns whose cells and slots grow -/
theorem xk_loopC {p : Program} {l : Launch} {e : Env} {R : Room} {s : State} {m : MethodId} {args : Array Value} {below : List Frame} {meth : Method} {c : Code} {Q : State → Prop} {pc : Nat} {rest : List Value} (Inv : Nat → Heap → List Loc → Array Slot → Drawn → Prop) (fc fs : Nat → Nat) (n : Nat)
    (step : ∀ (i : Nat) (H : Heap) (locs : List Loc) (ls : Array Slot) (d : Drawn), i ≤ n → Inv i H locs ls d → (∀ (H' : Heap) (locs' : List Loc) (ls' : Array Slot) (d' : Drawn), i < n → Inv (i + 1) H' locs' ls' d' → W p l e R (s.setDrawn d') m args below meth c H' locs' (fc (i + 1)) (fs (i + 1)) Q (F0 m pc ls' rest)) → W p l e R (s.setDrawn d) m args below meth c H locs (fc i) (fs i) Q (F0 m pc ls rest))
    {i : Nat} {H : Heap} {locs : List Loc} {ls : Array Slot} {d : Drawn} (hi : i ≤ n) (h : Inv i H locs ls d) : W p l e R (s.setDrawn d) m args below meth c H locs (fc i) (fs i) Q (F0 m pc ls rest) := by
  obtain ⟨k, hk⟩ : ∃ k, k = n - i := ⟨_, rfl⟩
  induction k generalizing i H locs ls d with
  | zero => exact step i H locs ls d hi h (fun _ _ _ _ h9 _ => absurd h9 (by omega))
  | succ k ih => exact step i H locs ls d hi h (fun H' locs' ls' d' h9 h8 => ih (i := i + 1) (H := H') (locs := locs') (ls := ls') (d := d') (by omega) h8 (by omega))
/-- .. without draws -/
theorem xk_loopQ {p : Program} {l : Launch} {e : Env} {R : Room} {s : State} {m : MethodId} {args : Array Value} {below : List Frame} {meth : Method} {c : Code} {Q : State → Prop} {pc : Nat} {rest : List Value} (Inv : Nat → Heap → List Loc → Array Slot → Prop) (fc fs : Nat → Nat) (n : Nat)
    (step : ∀ (i : Nat) (H : Heap) (locs : List Loc) (ls : Array Slot), i ≤ n → Inv i H locs ls → (∀ (H' : Heap) (locs' : List Loc) (ls' : Array Slot), i < n → Inv (i + 1) H' locs' ls' → W p l e R s m args below meth c H' locs' (fc (i + 1)) (fs (i + 1)) Q (F0 m pc ls' rest)) → W p l e R s m args below meth c H locs (fc i) (fs i) Q (F0 m pc ls rest))
    {i : Nat} {H : Heap} {locs : List Loc} {ls : Array Slot} (hi : i ≤ n) (h : Inv i H locs ls) : W p l e R s m args below meth c H locs (fc i) (fs i) Q (F0 m pc ls rest) := by
  obtain ⟨k, hk⟩ : ∃ k, k = n - i := ⟨_, rfl⟩
  induction k generalizing i H locs ls with
  | zero => exact step i H locs ls hi h (fun _ _ _ h9 _ => absurd h9 (by omega))
  | succ k ih => exact step i H locs ls hi h (fun H' locs' ls' h9 h8 => ih (i := i + 1) (H := H') (locs := locs') (ls := ls') (by omega) h8 (by omega))
theorem st_eq {σ τ : St} (h1 : s_sh σ = s_sh τ) (h2 : s_sw σ = s_sw τ) (h3 : s_ts σ = s_ts τ) (h4 : s_it σ = s_it τ) (h5 : s_tu σ = s_tu τ) (h6 : s_lk σ = s_lk τ) (h7 : s_n σ = s_n τ) (h8 : s_t σ = s_t τ) (h9 : s_pr σ = s_pr τ) (h10 : s_so σ = s_so τ) (h11 : s_bi σ = s_bi τ) (h12 : s_lp σ = s_lp τ) (h13 : s_lz σ = s_lz τ) (h14 : s_lu σ = s_lu τ) (h15 : s_ld σ = s_ld τ) (h16 : s_lf σ = s_lf τ) (h17 : s_lb σ = s_lb τ) (h18 : s_lw σ = s_lw τ) : σ = τ :=
  Prod.ext h1 (Prod.ext h2 (Prod.ext h3 (Prod.ext h4 (Prod.ext h5 (Prod.ext h6 (Prod.ext h7 (Prod.ext h8 (Prod.ext h9 (Prod.ext h10 (Prod.ext h11 (Prod.ext h12 (Prod.ext h13 (Prod.ext h14 (Prod.ext h15 (Prod.ext h16 (Prod.ext h17 h18))))))))))))))))
theorem bI_ne (x : Int32) (h : ¬ x = 0) : bI (x ≠ 0) = 1 := bI_t h
theorem bI_eq (x : Int32) (h : x = 0) : bI (x ≠ 0) = 0 := bI_f (fun z => z h)
