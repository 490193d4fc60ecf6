/-! NUMBERS: a double by its datum (what is a NaN of whatever bits is one datum) -/
abbrev Dm : Type := FP.Core.Datum
def dt (x : UInt64) : Dm := FP.Core.val64 x
def dAdd (x y : Dm) : Dm := FP.Core.round FP.Core.b64 (FP.Core.exactSum x y)
def dSub (x y : Dm) : Dm := FP.Core.round FP.Core.b64 (FP.Core.exactSum x (FP.Core.negate y))
def dMul (x y : Dm) : Dm := FP.Core.round FP.Core.b64 (FP.Core.exactProduct x y)
def dDiv (x y : Dm) : Dm := FP.Core.quotient FP.Core.b64 x y
def dCmp (x y : Dm) : Option Ordering := FP.Core.order x y
def dI (i : Int32) : Dm := dt (FP.i2d i)
def dZ : Dm := dt 0
theorem dt_nan {x : UInt64} (h : isNaN64 x = true) : dt x = .nan := by
  have h1 := isNaN64_iff.mp h
  have h2 : x.toNat &&& 0x7fffffffffffffff = x.toNat % 2 ^ 63 := Nat.and_two_pow_sub_one_eq_mod x.toNat 63
  rw [h2] at h1
  show FP.Core.decode FP.Core.b64 x.toNat = .nan
  refine (FP.Core.decode_nan x.toNat).mpr ?_
  have e1 : FP.Core.infBits FP.Core.b64 = 0x7ff0000000000000 := by decide +kernel
  have e2 : FP.Core.half FP.Core.b64 = 2 ^ 63 := by decide +kernel
  unfold FP.Core.mag
  rw [e1, e2]
  exact h1
theorem dt_alike {r z : UInt64} (h : alike64 r z = true) : dt r = dt z := by
  simp only [alike64, Bool.or_eq_true, Bool.and_eq_true, decide_eq_true_eq] at h
  rcases h with rfl | ⟨h1, h2⟩
  · rfl
  · rw [dt_nan h1, dt_nan h2]
theorem dt_add {r x y : UInt64} (h : alike64 r (FP.dadd x y) = true) : dt r = dAdd (dt x) (dt y) := (dt_alike h).trans (FP.Core.val64_dadd x y)
theorem dt_sub {r x y : UInt64} (h : alike64 r (FP.dsub x y) = true) : dt r = dSub (dt x) (dt y) := (dt_alike h).trans (FP.Core.val64_dsub x y)
theorem dt_mul {r x y : UInt64} (h : alike64 r (FP.dmul x y) = true) : dt r = dMul (dt x) (dt y) := (dt_alike h).trans (FP.Core.val64_dmul x y)
theorem dt_div {r x y : UInt64} (h : alike64 r (FP.ddiv x y) = true) : dt r = dDiv (dt x) (dt y) := (dt_alike h).trans (FP.Core.val64_ddiv x y)
theorem dt_cmp (x y : UInt64) : FP.dcmp x y = dCmp (dt x) (dt y) := rfl
theorem dCmp_self (x : Dm) : dCmp x x = some .eq ∨ x = .nan := by
  cases x with
  | nan => exact Or.inr rfl
  | inf s => left; cases s <;> decide
  | fin s c q =>
    left
    show some (compare _ _) = _
    rw [Int.compare_eq_eq.mpr rfl]
theorem dCmp_nanL (x : Dm) : dCmp .nan x = none := rfl
theorem dCmp_nanR (x : Dm) : dCmp x .nan = none := by cases x <;> rfl
/-! comparisons, by what they push -/
theorem cv_g_ge (o : Option Ordering) : (0 ≤ Op.cmpValue o .g) ↔ ¬ o = some .lt := by
  rcases o with _ | o
  · decide
  · cases o <;> decide
theorem cv_l_le (o : Option Ordering) : (Op.cmpValue o .l ≤ 0) ↔ ¬ o = some .gt := by
  rcases o with _ | o
  · decide
  · cases o <;> decide
theorem cv_l_eq (o : Option Ordering) : (Op.cmpValue o .l = 0) ↔ o = some .eq := by
  rcases o with _ | o
  · decide
  · cases o <;> decide
theorem cv_g_gt (o : Option Ordering) : (0 < Op.cmpValue o .g) ↔ ¬ (o = some .lt ∨ o = some .eq) := by
  rcases o with _ | o
  · decide
  · cases o <;> decide
/-! the lesser one -/
def dMin (x y : Dm) : Dm := if dCmp x y = some .lt then x else y
/-! rows by places: filled from b on, k of them -/
def po {α : Type} (b k : Nat) (f g : Nat → α) : Nat → α := fun j => if b ≤ j ∧ j < b + k then g (j - b) else f j
theorem po_0 {α : Type} (b : Nat) (f g : Nat → α) : po b 0 f g = f := by
  funext j
  unfold po
  rw [if_neg (by omega)]
theorem po_s {α : Type} (b k : Nat) (f g : Nat → α) : va_up (po b k f g) (b + k) (g k) = po b (k + 1) f g := by
  funext j
  unfold va_up po
  by_cases h : j = b + k
  · subst h
    rw [if_pos rfl, if_pos (by omega), Nat.add_sub_cancel_left]
  · rw [if_neg h]
    by_cases h2 : b ≤ j ∧ j < b + k
    · rw [if_pos h2, if_pos (by omega)]
    · rw [if_neg h2, if_neg (by omega)]
theorem po_at {α : Type} (b k : Nat) (f g : Nat → α) : po b k f g (b + k) = f (b + k) := by
  unfold po
  rw [if_neg (by omega)]
theorem po_in {α : Type} {b k i : Nat} (f g : Nat → α) (h : i < k) : po b k f g (b + i) = g i := by
  unfold po
  rw [if_pos (by omega), Nat.add_sub_cancel_left]
theorem po_out {α : Type} {b k j : Nat} (f g : Nat → α) (h : j < b) : po b k f g j = f j := by
  unfold po
  rw [if_neg (by omega)]
theorem po_hi {α : Type} {b k j : Nat} (f g : Nat → α) (h : b + k ≤ j) : po b k f g j = f j := by
  unfold po
  rw [if_neg (by omega)]
theorem po_po {α : Type} (b k : Nat) (f g h : Nat → α) : po b k (po b k f g) h = po b k f h := by
  funext j
  unfold po
  by_cases c : b ≤ j ∧ j < b + k
  · rw [if_pos c, if_pos c]
  · rw [if_neg c, if_neg c, if_neg c]
theorem po_c {α : Type} {b k : Nat} {f g h : Nat → α} (e : ∀ i, i < k → g i = h i) : po b k f g = po b k f h := by
  funext j
  unfold po
  by_cases c : b ≤ j ∧ j < b + k
  · rw [if_pos c, if_pos c, e _ (by omega)]
  · rw [if_neg c, if_neg c]
theorem upd_up (f : Nat → Int32) (k : Nat) (x : Int32) : upd f k x = va_up f k x := rfl
/-- a row of doubles by its data -/
def dts (f : Nat → UInt64) : Nat → Dm := fun j => dt (f j)
theorem dts_up (f : Nat → UInt64) (k : Nat) (x : UInt64) : dts (vf_upd f k x) = va_up (dts f) k (dt x) := by
  funext j
  unfold dts vf_upd va_up
  by_cases h : j = k
  · rw [if_pos h, if_pos h]
  · rw [if_neg h, if_neg h]
/-- the first n of a row are .. -/
def is5 (f : Nat → UInt64) (F : Nat → Dm) : Prop := ∀ j, j < 5 → dt (f j) = F j
theorem is5.up {f : Nat → UInt64} {F : Nat → Dm} (h : is5 f F) (k : Nat) {x : UInt64} {d : Dm} (e : dt x = d) : is5 (vf_upd f k x) (va_up F k d) := by
  intro j hj
  unfold vf_upd va_up
  by_cases c : j = k
  · rw [if_pos c, if_pos c]; exact e
  · rw [if_neg c, if_neg c]; exact h j hj
theorem is5.to {f : Nat → UInt64} {F G : Nat → Dm} (h : is5 f F) (e : ∀ j, j < 5 → F j = G j) : is5 f G := fun j hj => (h j hj).trans (e j hj)
/-! near: one number, or both zero -/
def isZ (d : Dm) : Prop := ∃ s q, d = .fin s 0 q
def nz (d e : Dm) : Prop := d = e ∨ (isZ d ∧ isZ e)
theorem nz.rf (d : Dm) : nz d d := Or.inl rfl
/-- a datum that bits stand for -/
def dOk (d : Dm) : Prop := FP.Core.fits FP.Core.b64 d
theorem dt_ok (x : UInt64) : dOk (dt x) := FP.Core.val64_fits x
theorem dAdd_ok (x y : Dm) : dOk (dAdd x y) := FP.Core.round_fits FP.Core.good_b64 _
theorem dI_ok (i : Int32) : dOk (dI i) := dt_ok _
theorem dZ_fin : dZ = .fin false 0 FP.Core.b64.qmin := by decide +kernel
theorem dAdd_comm (x y : Dm) : dAdd x y = dAdd y x := by
  unfold dAdd
  rw [FP.Core.exactSum_comm]
theorem dAdd_zero {d : Dm} (h : dOk d) (s : Bool) : nz (dAdd (.fin s 0 FP.Core.b64.qmin) d) d := by
  rw [dAdd_comm]
  cases d with
  | nan => exact nz.rf _
  | inf u => exact nz.rf _
  | fin u c q =>
    by_cases hc : c = 0
    · subst hc
      right
      have hq : q = FP.Core.b64.qmin := FP.Core.fits_zero_q FP.Core.good_b64 h
      subst hq
      refine ⟨?_, ⟨_, _, rfl⟩⟩
      cases s <;> cases u <;> exact ⟨_, _, rfl⟩
    · left
      exact FP.Core.round_sum_zero FP.Core.good_b64 h s (fun s' q' e => by injection e with _ e2 _; exact absurd e2 hc)
theorem dAdd_nz {d e b : Dm} (h : nz d e) (hd : dOk d) (he : dOk e) (hb : dOk b) : nz (dAdd d b) (dAdd e b) := by
  rcases h with rfl | ⟨⟨s, q, rfl⟩, ⟨u, r, rfl⟩⟩
  · exact nz.rf _
  · have hq : q = FP.Core.b64.qmin := FP.Core.fits_zero_q FP.Core.good_b64 hd
    have hr : r = FP.Core.b64.qmin := FP.Core.fits_zero_q FP.Core.good_b64 he
    subst hq
    subst hr
    have h1 := dAdd_zero hb s
    have h2 := dAdd_zero hb u
    rcases h1 with h1 | ⟨h1, h1'⟩ <;> rcases h2 with h2 | ⟨h2, h2'⟩
    · rw [h1, h2]; exact nz.rf _
    · exact Or.inr ⟨by rw [h1]; exact h2', h2⟩
    · exact Or.inr ⟨h1, by rw [h2]; exact h1'⟩
    · exact Or.inr ⟨h1, h2⟩
/-- what the law asks of two answers -/
theorem dCmp_nz {d e : Dm} (h : nz d e) (hd : dOk d) (he : dOk e) : dCmp d e = some .eq ∨ (d = .nan ∧ e = .nan) := by
  rcases h with rfl | ⟨⟨s, q, rfl⟩, ⟨u, r, rfl⟩⟩
  · rcases dCmp_self d with h | h
    · exact Or.inl h
    · exact Or.inr ⟨h, h⟩
  · left
    show some (compare (FP.Core.signed s (FP.Core.inUnits 0 q (min q r))) (FP.Core.signed u (FP.Core.inUnits 0 r (min q r)))) = _
    have e0 : ∀ a b, FP.Core.inUnits 0 a b = 0 := fun a b => by unfold FP.Core.inUnits; simp
    rw [e0, e0]
    cases s <;> cases u <;> rfl
