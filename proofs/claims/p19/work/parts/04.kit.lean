/-! ROWS OF OUR OWN over the kit's: indices by numbers, loops, worlds -/
section XK
variable {p : Program} {l : Launch} {e : Env} {R : Room} {s : State} {m : MethodId} {args : Array Value} {below : List Frame} {meth : Method} {c : Code} {H : Heap} {locs : List Loc} {cells slots : Nat} {Q : State → Prop}
variable {cc : ByteArray} {pc : Nat} {ls : Array Slot} {rest : List Value} {D : va_G} {cl : List vw_C} {A : Nat → Prop} {a : Nat} {tys : List (ClassId × FieldType)} {ws : va_W} {H0 : Heap}
theorem xk_i {x y : Int32} (h : x = y) (k : W p l e R s m args below meth c H locs cells slots Q (F0 m pc ls (.int y :: rest))) : W p l e R s m args below meth c H locs cells slots Q (F0 m pc ls (.int x :: rest)) := h ▸ k
theorem xk_iald (hexec : p.tables.exec = Jvm.exec) (hb : c.code = cc) (hK : va_K D cl tys s) (hP : va_P D cl ws H) (q0 t0 : Nat) {cA : ClassId} {n : Nat} {f : Nat → Int32} (ha : ws[q0]? = some (a, .inl (cA, n, .inl f))) (ht : tys[t0]? = some (cA, .int)) {o : Nat} (ho : o < n) (hn : n < 2 ^ 31) (hdg : decode cc pc = .ok (.iaload, 1))
    (kk : W p l e R s m args below meth c H locs cells slots Q (F0 m (pc + 1) ls (.int (f o) :: rest))) : W p l e R s m args below meth c H locs cells slots Q (F0 m pc ls (.int (nI o) :: .ref a :: rest)) :=
  va_iald hexec hb hK hP q0 t0 ha ht (vp_in_nI ho hn) hdg (by rw [nI_clamp (Nat.lt_trans ho hn)]; exact kk)
theorem xk_zald (hexec : p.tables.exec = Jvm.exec) (hb : c.code = cc) (hK : va_K D cl tys s) (hP : va_P D cl ws H) (q0 t0 : Nat) {cA : ClassId} {n : Nat} {f : Nat → Int32} (ha : ws[q0]? = some (a, .inl (cA, n, .inl f))) (ht : tys[t0]? = some (cA, .boolean)) {o : Nat} (ho : o < n) (hn : n < 2 ^ 31) (hdg : decode cc pc = .ok (.baload, 1))
    (kk : W p l e R s m args below meth c H locs cells slots Q (F0 m (pc + 1) ls (.int (f o) :: rest))) : W p l e R s m args below meth c H locs cells slots Q (F0 m pc ls (.int (nI o) :: .ref a :: rest)) :=
  va_zald hexec hb hK hP q0 t0 ha ht (vp_in_nI ho hn) hdg (by rw [nI_clamp (Nat.lt_trans ho hn)]; exact kk)
theorem xk_dald (hexec : p.tables.exec = Jvm.exec) (hb : c.code = cc) (hK : va_K D cl tys s) (hP : va_P D cl ws H) (q0 t0 : Nat) {cA : ClassId} {n : Nat} {f : Nat → UInt64} (ha : ws[q0]? = some (a, .inl (cA, n, .inr (.inr (.inr (.inl f)))))) (ht : tys[t0]? = some (cA, .double)) {o : Nat} (ho : o < n) (hn : n < 2 ^ 31) (hdg : decode cc pc = .ok (.daload, 1))
    (kk : W p l e R s m args below meth c H locs cells slots Q (F0 m (pc + 1) ls (.double (f o) :: rest))) : W p l e R s m args below meth c H locs cells slots Q (F0 m pc ls (.int (nI o) :: .ref a :: rest)) :=
  va_dald hexec hb hK hP q0 t0 ha ht (vp_in_nI ho hn) hdg (by rw [nI_clamp (Nat.lt_trans ho hn)]; exact kk)
theorem xk_iast (hexec : p.tables.exec = Jvm.exec) (hb : c.code = cc) (hK : va_K D cl tys s) (hP : va_P D cl ws H) (hD : va_D A ws) (hS : va_S A H0 H locs) (q0 t0 : Nat) {cA : ClassId} {n : Nat} {f : Nat → Int32} (ha : ws[q0]? = some (a, .inl (cA, n, .inl f))) (ht : tys[t0]? = some (cA, .int)) {o : Nat} {x : Int32} (ho : o < n) (hn : n < 2 ^ 31) (hdg : decode cc pc = .ok (.iastore, 1))
    (kk : ∀ (H1 : Heap) (locs1 : List Loc), va_P D cl (ws.set q0 (a, .inl (cA, n, .inl (upd f o x)))) H1 → va_D A (ws.set q0 (a, .inl (cA, n, .inl (upd f o x)))) → va_S A H0 H1 locs1 → W p l e R s m args below meth c H1 locs1 cells slots Q (F0 m (pc + 1) ls rest)) : W p l e R s m args below meth c H locs cells slots Q (F0 m pc ls (.int x :: .int (nI o) :: .ref a :: rest)) :=
  va_iast hexec hb hK hP hD hS q0 t0 ha ht (vp_in_nI ho hn) hdg (by rw [nI_clamp (Nat.lt_trans ho hn)]; exact kk)
theorem xk_zast (hexec : p.tables.exec = Jvm.exec) (hb : c.code = cc) (hK : va_K D cl tys s) (hP : va_P D cl ws H) (hD : va_D A ws) (hS : va_S A H0 H locs) (q0 t0 : Nat) {cA : ClassId} {n : Nat} {f : Nat → Int32} (ha : ws[q0]? = some (a, .inl (cA, n, .inl f))) (ht : tys[t0]? = some (cA, .boolean)) {o : Nat} {x x' : Int32} (ho : o < n) (hn : n < 2 ^ 31) (hx : vp_nar .boolean x = x') (hdg : decode cc pc = .ok (.bastore, 1))
    (kk : ∀ (H1 : Heap) (locs1 : List Loc), va_P D cl (ws.set q0 (a, .inl (cA, n, .inl (upd f o x')))) H1 → va_D A (ws.set q0 (a, .inl (cA, n, .inl (upd f o x')))) → va_S A H0 H1 locs1 → W p l e R s m args below meth c H1 locs1 cells slots Q (F0 m (pc + 1) ls rest)) : W p l e R s m args below meth c H locs cells slots Q (F0 m pc ls (.int x :: .int (nI o) :: .ref a :: rest)) :=
  va_zast hexec hb hK hP hD hS q0 t0 ha ht (vp_in_nI ho hn) hdg (by rw [nI_clamp (Nat.lt_trans ho hn), hx]; exact kk)
theorem xk_dast (hexec : p.tables.exec = Jvm.exec) (hb : c.code = cc) (hK : va_K D cl tys s) (hP : va_P D cl ws H) (hD : va_D A ws) (hS : va_S A H0 H locs) (q0 t0 : Nat) {cA : ClassId} {n : Nat} {f : Nat → UInt64} (ha : ws[q0]? = some (a, .inl (cA, n, .inr (.inr (.inr (.inl f)))))) (ht : tys[t0]? = some (cA, .double)) {o : Nat} {x : UInt64} (ho : o < n) (hn : n < 2 ^ 31) (hdg : decode cc pc = .ok (.dastore, 1))
    (kk : ∀ (H1 : Heap) (locs1 : List Loc), va_P D cl (ws.set q0 (a, .inl (cA, n, .inr (.inr (.inr (.inl (vf_upd f o x))))))) H1 → va_D A (ws.set q0 (a, .inl (cA, n, .inr (.inr (.inr (.inl (vf_upd f o x))))))) → va_S A H0 H1 locs1 → W p l e R s m args below meth c H1 locs1 cells slots Q (F0 m (pc + 1) ls rest)) : W p l e R s m args below meth c H locs cells slots Q (F0 m pc ls (.double x :: .int (nI o) :: .ref a :: rest)) :=
  va_dast hexec hb hK hP hD hS q0 t0 ha ht (vp_in_nI ho hn) hdg (by rw [nI_clamp (Nat.lt_trans ho hn)]; exact kk)
/-- a loop of at most n turns, over a start with some record of draws -/
theorem xk_loop (Inv : Nat → Heap → List Loc → Array Slot → Drawn → Prop) (n : Nat)
    (step : ∀ (i : Nat) (H : Heap) (locs : List Loc) (ls : Array Slot) (d : Drawn), i ≤ n → Inv i H locs ls d → (∀ (H' : Heap) (locs' : List Loc) (ls' : Array Slot) (d' : Drawn), i < n → Inv (i + 1) H' locs' ls' d' → W p l e R (s.setDrawn d') m args below meth c H' locs' cells slots Q (F0 m pc ls' rest)) → W p l e R (s.setDrawn d) m args below meth c H locs cells slots Q (F0 m pc ls rest))
    {i : Nat} {d : Drawn} (hi : i ≤ n) (h : Inv i H locs ls d) : W p l e R (s.setDrawn d) m args below meth c H locs cells slots Q (F0 m pc ls rest) := by
  obtain ⟨k, hk⟩ : ∃ k, k = n - i := ⟨_, rfl⟩
  induction k generalizing i H locs ls d with
  | zero => exact step i H locs ls d hi h (fun _ _ _ _ h9 _ => absurd h9 (by omega))
  | succ k ih => exact step i H locs ls d hi h (fun H' locs' ls' d' h9 h8 => ih (i := i + 1) (H := H') (locs := locs') (ls := ls') (d := d') (by omega) h8 (by omega))
/-- .. over the start itself -/
theorem xk_loopP (Inv : Nat → Heap → List Loc → Array Slot → Prop) (n : Nat)
    (step : ∀ (i : Nat) (H : Heap) (locs : List Loc) (ls : Array Slot), i ≤ n → Inv i H locs ls → (∀ (H' : Heap) (locs' : List Loc) (ls' : Array Slot), i < n → Inv (i + 1) H' locs' ls' → W p l e R s m args below meth c H' locs' cells slots Q (F0 m pc ls' rest)) → W p l e R s m args below meth c H locs cells slots Q (F0 m pc ls rest))
    {i : Nat} (hi : i ≤ n) (h : Inv i H locs ls) : W p l e R s m args below meth c H locs cells slots Q (F0 m pc ls rest) := by
  obtain ⟨k, hk⟩ : ∃ k, k = n - i := ⟨_, rfl⟩
  induction k generalizing i H locs ls with
  | zero => exact step i H locs ls hi h (fun _ _ _ h9 _ => absurd h9 (by omega))
  | succ k ih => exact step i H locs ls hi h (fun H' locs' ls' h9 h8 => ih (i := i + 1) (H := H') (locs := locs') (ls := ls') (by omega) h8 (by omega))
end XK
/-- a counter against a bound -/
theorem xk_ge {i n : Nat} (hi : i ≤ n) (hn : n < 2 ^ 31) (h : nI n ≤ nI i) : i = n := by
  have := (nI_leI hn (Nat.lt_of_le_of_lt hi hn)).mp h
  omega
theorem xk_nge {i n : Nat} (hi : i ≤ n) (hn : n < 2 ^ 31) (h : ¬ nI n ≤ nI i) : i < n := by
  rcases Nat.lt_or_ge i n with q | q
  · exact q
  · exact absurd ((nI_leI hn (Nat.lt_of_le_of_lt hi hn)).mpr q) h
abbrev T3 (cI cZ cD : ClassId) : List (ClassId × FieldType) := [(cI, .int), (cZ, .boolean), (cD, .double)]
/-- a world w at a state, its addresses apart and in A -/
abbrev XB (D : va_G) (cI cZ cD : ClassId) (w : va_W) (A : Nat → Prop) (t : State) : Prop := va_P D vwCl w t.heap ∧ va_K D vwCl (T3 cI cZ cD) t ∧ va_D A w
/-- .. a method's start -/
abbrev XP (D : va_G) (cI cZ cD : ClassId) (w : va_W) (sz : Nat) (U : State) : Prop := U.heap.size = sz ∧ XB D cI cZ cD w (fun _ => True) U
theorem xk_Kd {D : va_G} {cl : List vw_C} {tys : List (ClassId × FieldType)} {s : State} {d : Drawn} (h : va_K D cl tys s) : va_K D cl tys (s.setDrawn d) := va_K.moved (u := s) (U := s.setDrawn d) (Vm.Alike.refl s.vm) h
theorem xk_od {s : State} {d : Drawn} {own : String} {c : ClassId} (h : s.vm.findClass own = some c) : (s.setDrawn d).vm.findClass own = some c := h
theorem xk_blind {av : List Value} {D : va_G} {cI cZ cD : ClassId} {w : va_W} {sz : Nat} : FrameBlind (va_Pc av (XP D cI cZ cD w sz)) := fun a U g mk q => by
  obtain ⟨q0, q1, qP, qK, qD⟩ := q
  exact ⟨q0, q1, qP, va_K.moved (u := U) (U := U.calling g mk a) (Vm.Alike.refl U.vm) qK, qD⟩
theorem xk_pre {av : List Value} {D : va_G} {cI cZ cD : ClassId} {w : va_W} {A : Nat → Prop} {H : Heap} {s : State} (hP : va_P D vwCl w H) (hK : va_K D vwCl (T3 cI cZ cD) s) (hD : va_D A w) : ∀ U : State, U.heap = H → s.WarmedH U.vm → va_Pc av (XP D cI cZ cD w H.size) av.toArray U :=
  fun U hU hW => ⟨rfl, by rw [hU], by rw [hU]; exact hP, va_K.moved hW.alike hK, hD.weaken (fun _ _ _ _ => trivial)⟩
abbrev XW (a : Nat → Nat) (cI cZ cD : ClassId) (sh sw ts : Nat → Int32) (bi : Nat → UInt64) (it tu : Nat → Int32) (ne : Nat → UInt64) (pr so lo : UInt64) (wt cn : Int32) (lp lz lu : Nat → UInt64) (lk : Nat → Int32) (ld lf lb lw : Nat → UInt64) : va_W := [(a 0, .inr (1, [.ref (a 1), .ref (a 2), .ref (a 3), .ref (a 4), .ref (a 5), .ref (a 6), .ref (a 8), .double pr, .double so, .int wt, .ref (a 7), .double lo])), (a 1, .inl (cI, 5, .inl sh)), (a 2, .inl (cZ, 5, .inl sw)), (a 3, .inl (cI, 5, .inl ts)), (a 4, .inl (cD, 5, .inr (.inr (.inr (.inl bi))))), (a 5, .inl (cZ, 5, .inl it)), (a 6, .inl (cI, 5, .inl tu)), (a 7, .inl (cD, 5, .inr (.inr (.inr (.inl ne))))), (a 8, .inr (0, [.int cn, .ref (a 9), .ref (a 10), .ref (a 11), .ref (a 12), .ref (a 13), .ref (a 14), .ref (a 15), .ref (a 16)])), (a 9, .inl (cD, 60, .inr (.inr (.inr (.inl lp))))), (a 10, .inl (cD, 60, .inr (.inr (.inr (.inl lz))))), (a 11, .inl (cD, 300, .inr (.inr (.inr (.inl lu))))), (a 12, .inl (cZ, 300, .inl lk)), (a 13, .inl (cD, 300, .inr (.inr (.inr (.inl ld))))), (a 14, .inl (cD, 300, .inr (.inr (.inr (.inl lf))))), (a 15, .inl (cD, 300, .inr (.inr (.inr (.inl lb))))), (a 16, .inl (cD, 300, .inr (.inr (.inr (.inl lw)))))]
