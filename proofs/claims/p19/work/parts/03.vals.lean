/-! NUMBERS: a double by its datum (what is a NaN, of whatever bits, is one datum) -/
abbrev Dm : Type := FP.Core.Datum
def dt (x : UInt64) : Dm := FP.Core.decode FP.Core.b64 x.toNat
/-- what bits make of a datum -/
def en (d : Dm) : Dm := dt (UInt64.ofNat (FP.Core.encode FP.Core.b64 d))
def dAdd (x y : Dm) : Dm := en (FP.Core.round FP.Core.b64 (FP.Core.exactSum x y))
def dSub (x y : Dm) : Dm := en (FP.Core.round FP.Core.b64 (FP.Core.exactSum x (FP.Core.negate y)))
def dMul (x y : Dm) : Dm := en (FP.Core.round FP.Core.b64 (FP.Core.exactProduct x y))
def dDiv (x y : Dm) : Dm := en (FP.Core.quotient FP.Core.b64 x y)
def dCmp (x y : Dm) : Option Ordering := FP.Core.order x y
def dI (i : Int32) : Dm := dt (FP.i2d i)
def dZ : Dm := dt 0
theorem tails_b : FP.Core.Fmt.tails FP.Core.b64 = 4503599627370496 := by decide +kernel
theorem exps_b : FP.Core.Fmt.exps FP.Core.b64 = 2048 := by decide +kernel
theorem qmin_b : FP.Core.Fmt.qmin FP.Core.b64 = -1074 := by decide +kernel
theorem qmax_b : FP.Core.Fmt.qmax FP.Core.b64 = 971 := by decide +kernel
theorem decode_b (n : Nat) : FP.Core.decode FP.Core.b64 n = if n / 4503599627370496 % 2048 = 2047 then (if n % 4503599627370496 = 0 then .inf (n / 4503599627370496 / 2048 % 2 == 1) else .nan) else if n / 4503599627370496 % 2048 = 0 then .fin (n / 4503599627370496 / 2048 % 2 == 1) (n % 4503599627370496) (-1074) else .fin (n / 4503599627370496 / 2048 % 2 == 1) (4503599627370496 + n % 4503599627370496) (-1074 + (((n / 4503599627370496 % 2048 : Nat) : Int) - 1)) := by
  unfold FP.Core.decode FP.Core.fieldE FP.Core.fieldT FP.Core.fieldS
  rw [tails_b, exps_b, qmin_b]
theorem dt_nan {x : UInt64} (h : isNaN64 x = true) : dt x = .nan := by
  have h1 := isNaN64_iff.mp h
  have h2 : x.toNat &&& 0x7fffffffffffffff = x.toNat % 2 ^ 63 := Nat.and_two_pow_sub_one_eq_mod x.toNat 63
  rw [h2] at h1
  have h3 : x.toNat < 18446744073709551616 := x.toNat_lt
  unfold dt
  rw [decode_b, if_pos (by omega), if_neg (by omega)]
theorem dt_alike {r z : UInt64} (h : alike64 r z = true) : dt r = dt z := by
  simp only [alike64, Bool.or_eq_true, Bool.and_eq_true, decide_eq_true_eq] at h
  rcases h with rfl | ⟨h1, h2⟩
  · rfl
  · rw [dt_nan h1, dt_nan h2]
theorem dt_add {r x y : UInt64} (h : alike64 r (FP.dadd x y) = true) : dt r = dAdd (dt x) (dt y) := dt_alike h
theorem dt_sub {r x y : UInt64} (h : alike64 r (FP.dsub x y) = true) : dt r = dSub (dt x) (dt y) := dt_alike h
theorem dt_mul {r x y : UInt64} (h : alike64 r (FP.dmul x y) = true) : dt r = dMul (dt x) (dt y) := dt_alike h
theorem dt_div {r x y : UInt64} (h : alike64 r (FP.ddiv x y) = true) : dt r = dDiv (dt x) (dt y) := dt_alike h
theorem dt_cmp (x y : UInt64) : FP.dcmp x y = dCmp (dt x) (dt y) := rfl
theorem dCmp_self (x : Dm) : dCmp x x = some .eq ∨ x = .nan := by
  cases x with
  | nan => exact Or.inr rfl
  | inf s => left; cases s <;> decide
  | fin s c q =>
    left
    show some (compare _ _) = _
    rw [Int.compare_eq_eq.mpr rfl]
theorem dCmp_nanL (x : Dm) : dCmp .nan x = none := rfl
theorem dCmp_nanR (x : Dm) : dCmp x .nan = none := by cases x <;> rfl
/-- a datum that bits stand for -/
def dOk (d : Dm) : Prop := ∃ x : UInt64, dt x = d
theorem dt_ok (x : UInt64) : dOk (dt x) := ⟨x, rfl⟩
theorem dAdd_ok (x y : Dm) : dOk (dAdd x y) := ⟨_, rfl⟩
theorem dI_ok (i : Int32) : dOk (dI i) := ⟨_, rfl⟩
theorem dZ_fin : dZ = .fin false 0 (-1074) := by decide +kernel
theorem enc_dec {n : Nat} (hn : n < 18446744073709551616) (h : FP.Core.decode FP.Core.b64 n ≠ .nan) : FP.Core.encode FP.Core.b64 (FP.Core.decode FP.Core.b64 n) = n := by
  have hs : (n / 4503599627370496 / 2048 % 2 == 1).toNat = n / 4503599627370496 / 2048 % 2 := by
    rcases Nat.mod_two_eq_zero_or_one (n / 4503599627370496 / 2048) with e | e <;> rw [e] <;> rfl
  rw [decode_b] at h ⊢
  by_cases hE : n / 4503599627370496 % 2048 = 2047
  · rw [if_pos hE] at h ⊢
    by_cases hT : n % 4503599627370496 = 0
    · rw [if_pos hT]
      show FP.Core.assemble FP.Core.b64 _ (FP.Core.Fmt.exps FP.Core.b64 - 1) 0 = n
      unfold FP.Core.assemble
      rw [hs, exps_b, tails_b]
      omega
    · rw [if_neg hT] at h
      exact absurd rfl h
  · rw [if_neg hE] at h ⊢
    by_cases h0 : n / 4503599627370496 % 2048 = 0
    · rw [if_pos h0]
      show (if n % 4503599627370496 < FP.Core.Fmt.tails FP.Core.b64 then FP.Core.assemble FP.Core.b64 _ 0 (n % 4503599627370496) else _) = n
      rw [tails_b, if_pos (Nat.mod_lt _ (by decide))]
      unfold FP.Core.assemble
      rw [hs, exps_b, tails_b]
      omega
    · rw [if_neg h0]
      show (if 4503599627370496 + n % 4503599627370496 < FP.Core.Fmt.tails FP.Core.b64 then _ else FP.Core.assemble FP.Core.b64 _ ((-1074 + (((n / 4503599627370496 % 2048 : Nat) : Int) - 1) - FP.Core.Fmt.qmin FP.Core.b64).toNat + 1) (4503599627370496 + n % 4503599627370496 - FP.Core.Fmt.tails FP.Core.b64)) = n
      rw [tails_b, qmin_b, if_neg (by omega)]
      unfold FP.Core.assemble
      rw [hs, exps_b, tails_b]
      omega
theorem en_ok {d : Dm} (h : dOk d) (hn : d ≠ .nan) : en d = d := by
  obtain ⟨x, rfl⟩ := h
  unfold en
  have h1 : FP.Core.encode FP.Core.b64 (dt x) = x.toNat := enc_dec x.toNat_lt hn
  rw [h1, UInt64.ofNat_toNat]
theorem dOk_fin {s : Bool} {c : Nat} {q : Int} (h : dOk (.fin s c q)) : c < 9007199254740992 ∧ -1074 ≤ q ∧ q ≤ 971 ∧ (q = -1074 ∨ 4503599627370496 ≤ c) := by
  obtain ⟨x, hx⟩ := h
  unfold dt at hx
  rw [decode_b] at hx
  by_cases hE : x.toNat / 4503599627370496 % 2048 = 2047
  · rw [if_pos hE] at hx
    by_cases hT : x.toNat % 4503599627370496 = 0
    · rw [if_pos hT] at hx; cases hx
    · rw [if_neg hT] at hx; cases hx
  · rw [if_neg hE] at hx
    by_cases h0 : x.toNat / 4503599627370496 % 2048 = 0
    · rw [if_pos h0] at hx
      cases hx
      omega
    · rw [if_neg h0] at hx
      cases hx
      omega
theorem log2_lo {c j : Nat} (h1 : 4503599627370496 ≤ c) (h2 : c < 9007199254740992) : (c * 2 ^ j).log2 = 52 + j := by
  have hp : 0 < 2 ^ j := Nat.two_pow_pos j
  have hn : c * 2 ^ j ≠ 0 := Nat.ne_of_gt (Nat.mul_pos (by omega) hp)
  have a1 : 52 + j ≤ (c * 2 ^ j).log2 := by
    rw [Nat.le_log2 hn, Nat.pow_add]
    exact Nat.mul_le_mul_right _ h1
  have a2 : (c * 2 ^ j).log2 < 53 + j := by
    rw [Nat.log2_lt hn, Nat.pow_add]
    exact Nat.mul_lt_mul_of_pos_right h2 hp
  omega
theorem rnd_units {s : Bool} {c : Nat} {q : Int} (hc : c ≠ 0) (h1 : c < 9007199254740992) (h2 : -1074 ≤ q) (h3 : q ≤ 971) (h4 : q = -1074 ∨ 4503599627370496 ≤ c) : FP.Core.round FP.Core.b64 (.fin s (c * 2 ^ (q + 1074).toNat) (-1074)) = .fin s c q := by
  obtain ⟨j, hj⟩ : ∃ j : Nat, j = (q + 1074).toNat := ⟨_, rfl⟩
  rw [← hj]
  have hq : q = (j : Int) - 1074 := by omega
  have hp : 0 < 2 ^ j := Nat.two_pow_pos j
  have hn : c * 2 ^ j ≠ 0 := Nat.ne_of_gt (Nat.mul_pos (by omega) hp)
  show FP.Core.roundRatio FP.Core.b64 s (c * 2 ^ j) 1 (-1074) = _
  unfold FP.Core.roundRatio
  rw [if_neg hn]
  have hl : FP.Core.leading (c * 2 ^ j) 1 = ((c * 2 ^ j).log2 : Int) := by
    unfold FP.Core.leading
    have e1 : (1 : Nat).log2 = 0 := by decide
    rw [e1]
    simp only [Int.ofNat_zero, Int.natCast_zero, Int.sub_zero, Nat.one_mul]
    have e2 : ((((c * 2 ^ j).log2 : Nat) : Int)).toNat = (c * 2 ^ j).log2 := by omega
    have e3 : (-(((c * 2 ^ j).log2 : Nat) : Int)).toNat = 0 := by omega
    rw [e2, e3, Nat.pow_zero, Nat.mul_one, if_pos (Nat.log2_self_le hn)]
  have hqu : FP.Core.quantum FP.Core.b64 (c * 2 ^ j) 1 (-1074) = q := by
    unfold FP.Core.quantum
    rw [hl, qmin_b]
    have e4 : ((FP.Core.b64.p : Nat) : Int) = 53 := rfl
    rw [e4]
    rcases h4 with h4 | h4
    · have hj0 : j = 0 := by omega
      subst hj0
      rw [Nat.pow_zero, Nat.mul_one]
      by_cases hb : 4503599627370496 ≤ c
      · have := log2_lo (j := 0) hb h1
        rw [Nat.pow_zero, Nat.mul_one] at this
        rw [this]
        omega
      · have : c.log2 < 52 := (Nat.log2_lt hc).mpr (by omega)
        omega
    · rw [log2_lo h4 h1]
      omega
  rw [hqu]
  unfold FP.Core.roundAt FP.Core.unitsNum FP.Core.unitsDen
  have e5 : (-1074 - q).toNat = 0 := by omega
  have e6 : (q - -1074).toNat = j := by omega
  rw [e5, e6, Nat.pow_zero, Nat.mul_one, Nat.one_mul]
  have e7 : FP.Core.nearest (c * 2 ^ j) (2 ^ j) = c := by
    unfold FP.Core.nearest
    rw [Nat.mul_mod_left, Nat.mul_zero, if_pos hp, Nat.mul_div_cancel _ hp]
  rw [e7]
  unfold FP.Core.settle FP.Core.bound
  rw [if_pos (show c < 2 ^ FP.Core.b64.p from h1), qmax_b, if_pos h3]
def isZ (d : Dm) : Prop := ∃ s q, d = .fin s 0 q
/-- near: one number, or both zero -/
def nz (d e : Dm) : Prop := d = e ∨ (isZ d ∧ isZ e)
theorem nz.rf (d : Dm) : nz d d := Or.inl rfl
theorem dAdd_zz (s u : Bool) : isZ (dAdd (.fin s 0 (-1074)) (.fin u 0 (-1074))) := by
  cases s <;> cases u
  · exact ⟨false, -1074, by decide +kernel⟩
  · exact ⟨false, -1074, by decide +kernel⟩
  · exact ⟨false, -1074, by decide +kernel⟩
  · exact ⟨true, -1074, by decide +kernel⟩
theorem dOk_zero {s : Bool} {q : Int} (h : dOk (.fin s 0 q)) : q = -1074 := by
  have h1 := dOk_fin h
  omega
theorem exact_zero (z s : Bool) {c : Nat} {q : Int} (hc : c ≠ 0) (hq : -1074 ≤ q) : FP.Core.exactSum (.fin z 0 (-1074)) (.fin s c q) = .fin s (c * 2 ^ (q + 1074).toNat) (-1074) := by
  have hm : min (-1074) q = -1074 := by omega
  have hN : 0 < c * 2 ^ (q + 1074).toNat := Nat.mul_pos (by omega) (Nat.two_pow_pos _)
  have e1 : FP.Core.inUnits 0 (-1074) (-1074) = 0 := by decide
  have e2 : FP.Core.inUnits c q (-1074) = c * 2 ^ (q + 1074).toNat := by
    unfold FP.Core.inUnits
    rw [show q - -1074 = q + 1074 by omega]
  have e3 : FP.Core.sumUnits z 0 (-1074) s c q (-1074) = FP.Core.signed s (c * 2 ^ (q + 1074).toNat) := by
    unfold FP.Core.sumUnits
    rw [e1, e2]
    cases z <;> simp [FP.Core.signed]
  show FP.Core.Datum.fin (FP.Core.sumSign z s (FP.Core.sumUnits z 0 (-1074) s c q (min (-1074) q))) (FP.Core.sumUnits z 0 (-1074) s c q (min (-1074) q)).natAbs (min (-1074) q) = _
  rw [hm, e3]
  generalize c * 2 ^ (q + 1074).toNat = N at hN ⊢
  have e4 : (FP.Core.signed s N).natAbs = N := by cases s <;> simp [FP.Core.signed]
  have e5 : FP.Core.sumSign z s (FP.Core.signed s N) = s := by
    unfold FP.Core.sumSign
    cases s
    · have h0 : ¬ FP.Core.signed false N = 0 := by show ¬ ((N : Int) = 0); omega
      rw [if_neg h0]
      exact decide_eq_false (by show ¬ ((N : Int) < 0); omega)
    · have h0 : ¬ FP.Core.signed true N = 0 := by show ¬ (-(N : Int) = 0); omega
      rw [if_neg h0]
      exact decide_eq_true (by show (-(N : Int) < 0); omega)
  rw [e4, e5]
theorem dAdd_zero {d : Dm} (h : dOk d) (s : Bool) : nz (dAdd (.fin s 0 (-1074)) d) d := by
  cases d with
  | nan => left; cases s <;> decide +kernel
  | inf u => left; cases s <;> cases u <;> decide +kernel
  | fin u c q =>
    by_cases hc : c = 0
    · subst hc
      have hq := dOk_zero h
      subst hq
      exact Or.inr ⟨dAdd_zz s u, ⟨_, _, rfl⟩⟩
    · left
      obtain ⟨h1, h2, h3, h4⟩ := dOk_fin h
      unfold dAdd
      rw [exact_zero s u hc h2, rnd_units hc h1 h2 h3 h4]
      exact en_ok h (fun e => by cases e)
theorem dAdd_nz {d e b : Dm} (h : nz d e) (hd : dOk d) (he : dOk e) (hb : dOk b) : nz (dAdd d b) (dAdd e b) := by
  rcases h with rfl | ⟨⟨s, q, rfl⟩, ⟨u, r, rfl⟩⟩
  · exact nz.rf _
  · have hq := dOk_zero hd
    have hr := dOk_zero he
    subst hq
    subst hr
    have h1 := dAdd_zero hb s
    have h2 := dAdd_zero hb u
    rcases h1 with h1 | ⟨h1, h1'⟩ <;> rcases h2 with h2 | ⟨h2, h2'⟩
    · rw [h1, h2]; exact nz.rf _
    · exact Or.inr ⟨by rw [h1]; exact h2', h2⟩
    · exact Or.inr ⟨h1, by rw [h2]; exact h1'⟩
    · exact Or.inr ⟨h1, h2⟩
/-- what the law asks of two answers -/
theorem dCmp_nz {d e : Dm} (h : nz d e) : dCmp d e = some .eq ∨ (d = .nan ∧ e = .nan) := by
  rcases h with rfl | ⟨⟨s, q, rfl⟩, ⟨u, r, rfl⟩⟩
  · rcases dCmp_self d with h | h
    · exact Or.inl h
    · exact Or.inr ⟨h, h⟩
  · left
    show some (compare (FP.Core.signed s (FP.Core.inUnits 0 q (min q r))) (FP.Core.signed u (FP.Core.inUnits 0 r (min q r)))) = _
    have e0 : ∀ a b, FP.Core.inUnits 0 a b = 0 := fun a b => by unfold FP.Core.inUnits; simp
    rw [e0, e0]
    cases s <;> cases u <;> rfl
/-! comparisons, by what they push -/
theorem cv_g_ge (o : Option Ordering) : (0 ≤ Op.cmpValue o .g) ↔ ¬ o = some .lt := by
  rcases o with _ | o
  · decide
  · cases o <;> decide
theorem cv_l_le (o : Option Ordering) : (Op.cmpValue o .l ≤ 0) ↔ ¬ o = some .gt := by
  rcases o with _ | o
  · decide
  · cases o <;> decide
theorem cv_l_eq (o : Option Ordering) : (Op.cmpValue o .l = 0) ↔ o = some .eq := by
  rcases o with _ | o
  · decide
  · cases o <;> decide
theorem cv_g_gt (o : Option Ordering) : (0 < Op.cmpValue o .g) ↔ ¬ (o = some .lt ∨ o = some .eq) := by
  rcases o with _ | o
  · decide
  · cases o <;> decide
/-! the lesser one -/
def dMin (x y : Dm) : Dm := if dCmp x y = some .lt then x else y
/-! rows by places: filled from b on, k of them -/
def po {α : Type} (b k : Nat) (f g : Nat → α) : Nat → α := fun j => if b ≤ j ∧ j < b + k then g (j - b) else f j
theorem po_0 {α : Type} (b : Nat) (f g : Nat → α) : po b 0 f g = f := by
  funext j
  unfold po
  rw [if_neg (by omega)]
theorem po_s {α : Type} (b k : Nat) (f g : Nat → α) : va_up (po b k f g) (b + k) (g k) = po b (k + 1) f g := by
  funext j
  unfold va_up po
  by_cases h : j = b + k
  · subst h
    rw [if_pos rfl, if_pos (by omega), Nat.add_sub_cancel_left]
  · rw [if_neg h]
    by_cases h2 : b ≤ j ∧ j < b + k
    · rw [if_pos h2, if_pos (by omega)]
    · rw [if_neg h2, if_neg (by omega)]
theorem po_at {α : Type} (b k : Nat) (f g : Nat → α) : po b k f g (b + k) = f (b + k) := by
  unfold po
  rw [if_neg (by omega)]
theorem po_in {α : Type} {b k i : Nat} (f g : Nat → α) (h : i < k) : po b k f g (b + i) = g i := by
  unfold po
  rw [if_pos (by omega), Nat.add_sub_cancel_left]
theorem po_out {α : Type} {b k j : Nat} (f g : Nat → α) (h : j < b) : po b k f g j = f j := by
  unfold po
  rw [if_neg (by omega)]
theorem po_hi {α : Type} {b k j : Nat} (f g : Nat → α) (h : b + k ≤ j) : po b k f g j = f j := by
  unfold po
  rw [if_neg (by omega)]
theorem po_po {α : Type} (b k : Nat) (f g h : Nat → α) : po b k (po b k f g) h = po b k f h := by
  funext j
  unfold po
  by_cases c : b ≤ j ∧ j < b + k
  · rw [if_pos c, if_pos c]
  · rw [if_neg c, if_neg c, if_neg c]
theorem po_c {α : Type} {b k : Nat} {f g h : Nat → α} (e : ∀ i, i < k → g i = h i) : po b k f g = po b k f h := by
  funext j
  unfold po
  by_cases c : b ≤ j ∧ j < b + k
  · rw [if_pos c, if_pos c, e _ (by omega)]
  · rw [if_neg c, if_neg c]
theorem upd_up (f : Nat → Int32) (k : Nat) (x : Int32) : upd f k x = va_up f k x := rfl
/-- a row of doubles by its data -/
def dts (f : Nat → UInt64) : Nat → Dm := fun j => dt (f j)
theorem dts_up (f : Nat → UInt64) (k : Nat) (x : UInt64) : dts (vf_upd f k x) = va_up (dts f) k (dt x) := by
  funext j
  unfold dts vf_upd va_up
  by_cases h : j = k
  · rw [if_pos h, if_pos h]
  · rw [if_neg h, if_neg h]
/-- the first n of a row are .. -/
def is5 (f : Nat → UInt64) (F : Nat → Dm) : Prop := ∀ j, j < 5 → dt (f j) = F j
theorem is5.up {f : Nat → UInt64} {F : Nat → Dm} (h : is5 f F) (k : Nat) {x : UInt64} {d : Dm} (e : dt x = d) : is5 (vf_upd f k x) (va_up F k d) := by
  intro j hj
  unfold vf_upd va_up
  by_cases c : j = k
  · rw [if_pos c, if_pos c]; exact e
  · rw [if_neg c, if_neg c]; exact h j hj
theorem is5.to {f : Nat → UInt64} {F G : Nat → Dm} (h : is5 f F) (e : ∀ j, j < 5 → F j = G j) : is5 f G := fun j hj => (h j hj).trans (e j hj)
