/-! NUMBERS BY THEIR VALUES: how many of the least number a datum is, and how far rounding goes -/
abbrev zv (d : Dm) : Int := FP.Core.zval FP.Core.b64 d
abbrev ft (d : Dm) : Prop := FP.Core.fits FP.Core.b64 d
theorem gb : FP.Core.Good FP.Core.b64 := FP.Core.good_b64
/-- a step: two to the -36th -/
def G0 : Int := ((2 ^ 1038 : Nat) : Int)
/-- one -/
def U0 : Int := ((2 ^ 1074 : Nat) : Int)
theorem G0_pos : 0 < G0 := Int.natCast_pos.mpr (Nat.two_pow_pos _)
theorem U0_G0 : U0 = 68719476736 * G0 := by decide +kernel
theorem U0_pos : 0 < U0 := Int.natCast_pos.mpr (Nat.two_pow_pos _)
theorem dt_ft (x : UInt64) : ft (dt x) := FP.Core.decode_fits gb _
theorem en_ft {d : Dm} (h : ft d) : en d = d := FP.Core.val64_of64 h
theorem dAdd_r (x y : Dm) : dAdd x y = FP.Core.round FP.Core.b64 (FP.Core.exactSum x y) := en_ft (FP.Core.round_fits gb _)
theorem dSub_r (x y : Dm) : dSub x y = FP.Core.round FP.Core.b64 (FP.Core.exactSum x (FP.Core.negate y)) := en_ft (FP.Core.round_fits gb _)
theorem dMul_r (x y : Dm) : dMul x y = FP.Core.round FP.Core.b64 (FP.Core.exactProduct x y) := en_ft (FP.Core.round_fits gb _)
theorem dDiv_r (x y : Dm) : dDiv x y = FP.Core.quotient FP.Core.b64 x y := en_ft (FP.Core.quotient_fits gb _ _)
/-- a number of a size that we keep to: at most 2 to the 16th -/
def nb (d : Dm) : Prop := ft d ∧ d ≠ .nan ∧ zv d ≤ 4503599627370496 * G0 ∧ -(4503599627370496 * G0) ≤ zv d
theorem top_big : 4503599627370496 * G0 < ((FP.Core.Fmt.tails FP.Core.b64 * 2 ^ (FP.Core.Fmt.exps FP.Core.b64 - 2) : Nat) : Int) := by decide +kernel
theorem nb_fin {d : Dm} (h : nb d) : ∃ s c q, d = .fin s c q := by
  obtain ⟨h1, h2, h3, h4⟩ := h
  have hb := top_big
  cases d with
  | nan => exact absurd rfl h2
  | inf s =>
    exfalso
    cases s
    · have e : zv (.inf false) = ((FP.Core.Fmt.tails FP.Core.b64 * 2 ^ (FP.Core.Fmt.exps FP.Core.b64 - 2) : Nat) : Int) := rfl
      rw [e] at h3
      exact absurd h3 (Int.not_le.mpr hb)
    · have e : zv (.inf true) = -((FP.Core.Fmt.tails FP.Core.b64 * 2 ^ (FP.Core.Fmt.exps FP.Core.b64 - 2) : Nat) : Int) := rfl
      rw [e] at h4
      exact absurd (Int.neg_le_neg_iff.mp h4) (Int.not_le.mpr hb)
  | fin s c q => exact ⟨s, c, q, rfl⟩
theorem sgn_abs (k : Int) : FP.Core.signed (decide (k < 0)) k.natAbs = k := by
  unfold FP.Core.signed
  by_cases h : k < 0
  · rw [decide_eq_true h, if_pos rfl]; omega
  · rw [decide_eq_false h, if_neg (by decide)]; omega
/-- each small number of steps is a number of the format -/
theorem grid (k : Int) (h1 : -9007199254740992 < k) (h2 : k < 9007199254740992) : ∃ V : Dm, ft V ∧ V ≠ .nan ∧ zv V = k * G0 := by
  obtain ⟨c', q', e1, e2⟩ := FP.Core.round_exact gb (decide (k < 0)) (c := k.natAbs) (q := -36) (by show k.natAbs < 9007199254740992; omega) (by rw [qmin_b]; decide) (by rw [qmax_b]; decide)
  refine ⟨.fin (decide (k < 0)) c' q', by rw [← e1]; exact FP.Core.round_fits gb _, (fun e => by cases e), ?_⟩
  show FP.Core.signed (decide (k < 0)) (FP.Core.inUnits c' q' FP.Core.b64.qmin) = k * G0
  rw [e2, qmin_b]
  have e3 : FP.Core.inUnits k.natAbs (-36) (-1074) = k.natAbs * 2 ^ 1038 := by
    unfold FP.Core.inUnits
    rw [show ((-36 : Int) - -1074).toNat = 1038 by decide]
  rw [e3, FP.Core.signed_mul, sgn_abs]
  rfl
/-- r is n / b, rounded: within a step, and on no other side of a step's multiple -/
def rq (b n r : Int) : Prop := r * b ≤ n + b * G0 ∧ n ≤ r * b + b * G0 ∧ ∀ k : Int, -9007199254740992 < k → k < 9007199254740992 → (n ≤ k * G0 * b → r ≤ k * G0) ∧ (k * G0 * b ≤ n → k * G0 ≤ r)
theorem rq_of {b n r : Int} (hb : 0 < b) (h1 : n ≤ 4503599627370496 * G0 * b) (h2 : -(4503599627370496 * G0 * b) ≤ n) (h : ∀ k : Int, -9007199254740992 < k → k < 9007199254740992 → (n ≤ k * G0 * b → r ≤ k * G0) ∧ (k * G0 * b ≤ n → k * G0 ≤ r)) : rq b n r := by
  have hG := G0_pos
  have hD : 0 < G0 * b := Int.mul_pos hG hb
  have k1 := Int.mul_ediv_add_emod n (G0 * b)
  have k2 := Int.emod_nonneg n (Int.ne_of_gt hD)
  have k3 := Int.emod_lt_of_pos n hD
  generalize hm : n / (G0 * b) = m at k1
  generalize n % (G0 * b) = e at k1 k2 k3
  have a1 : 4503599627370496 * G0 * b = 4503599627370496 * (G0 * b) := Int.mul_assoc _ _ _
  have a2 : -(4503599627370496 * (G0 * b)) = (-4503599627370496) * (G0 * b) := by rw [Int.neg_mul]
  have b1 : m ≤ 4503599627370496 := by
    refine Int.le_of_mul_le_mul_right (a := G0 * b) ?_ hD
    rw [Int.mul_comm m]
    omega
  have b2 : -4503599627370497 < m := by
    refine Int.lt_of_mul_lt_mul_right (a := G0 * b) ?_ (Int.le_of_lt hD)
    rw [Int.mul_comm m]
    omega
  have c1 : m * G0 * b = G0 * b * m := by rw [Int.mul_assoc, Int.mul_comm]
  have c2 : (m + 1) * G0 * b = G0 * b * m + G0 * b := by rw [Int.mul_assoc, Int.mul_comm, Int.mul_add, Int.mul_one]
  have d1 := (h m (by omega) (by omega)).2 (by rw [c1]; omega)
  have d2 := (h (m + 1) (by omega) (by omega)).1 (by rw [c2]; omega)
  have f1 : m * G0 * b ≤ r * b := Int.mul_le_mul_of_nonneg_right d1 (Int.le_of_lt hb)
  have f2 : r * b ≤ (m + 1) * G0 * b := Int.mul_le_mul_of_nonneg_right d2 (Int.le_of_lt hb)
  rw [c1] at f1
  rw [c2] at f2
  have g1 : b * G0 = G0 * b := Int.mul_comm _ _
  refine ⟨by rw [g1]; omega, by rw [g1]; omega, h⟩
/-- .. and stays of that size -/
theorem nb_of {b n : Int} {d : Dm} (hd : ft d) (hn : d ≠ .nan) (h1 : n ≤ 4503599627370496 * G0 * b) (h2 : -(4503599627370496 * G0 * b) ≤ n) (h : rq b n (zv d)) : nb d := by
  refine ⟨hd, hn, (h.2.2 4503599627370496 (by omega) (by omega)).1 h1, ?_⟩
  have := (h.2.2 (-4503599627370496) (by omega) (by omega)).2 (by rw [Int.neg_mul, Int.neg_mul]; exact h2)
  rw [Int.neg_mul] at this
  exact this
theorem round_nn {s : Bool} {c : Nat} {q : Int} : FP.Core.round FP.Core.b64 (.fin s c q) ≠ .nan := FP.Core.roundRatio_ne_nan _ _ _ _ _
theorem rnd_k {s : Bool} {c : Nat} {q e0 : Int} (h0 : e0 ≤ FP.Core.b64.qmin) (h0e : e0 ≤ q) (k : Int) (h1 : -9007199254740992 < k) (h2 : k < 9007199254740992) :
    (FP.Core.signed s (FP.Core.inUnits c q e0) ≤ k * G0 * ((2 ^ (FP.Core.b64.qmin - e0).toNat : Nat) : Int) → zv (FP.Core.round FP.Core.b64 (.fin s c q)) ≤ k * G0) ∧ (k * G0 * ((2 ^ (FP.Core.b64.qmin - e0).toNat : Nat) : Int) ≤ FP.Core.signed s (FP.Core.inUnits c q e0) → k * G0 ≤ zv (FP.Core.round FP.Core.b64 (.fin s c q))) := by
  obtain ⟨V, hV, hn, e⟩ := grid k h1 h2
  rw [← e]
  exact ⟨FP.Core.zval_round_le gb hV hn h0 h0e, FP.Core.zval_round_ge gb hV hn h0 h0e⟩
theorem zv_neg (d : Dm) : zv (FP.Core.negate d) = -zv d := FP.Core.zval_negate _ d
theorem sum_rq {s t : Bool} {c d : Nat} {q r : Int} (hx : ft (.fin s c q)) (hy : ft (.fin t d r)) {z : Dm} (hz : z = FP.Core.round FP.Core.b64 (FP.Core.exactSum (.fin s c q) (.fin t d r))) (h1 : zv (.fin s c q) + zv (.fin t d r) ≤ 4503599627370496 * G0) (h2 : -(4503599627370496 * G0) ≤ zv (.fin s c q) + zv (.fin t d r)) : nb z ∧ rq 1 (zv (.fin s c q) + zv (.fin t d r)) (zv z) := by
  subst hz
  obtain ⟨sg, n, e, e1, e2, e3⟩ := FP.Core.sum_units hx hy
  rw [e1]
  have h1' : zv (.fin s c q) + zv (.fin t d r) ≤ 4503599627370496 * G0 * 1 := by rw [Int.mul_one]; exact h1
  have h2' : -(4503599627370496 * G0 * 1) ≤ zv (.fin s c q) + zv (.fin t d r) := by rw [Int.mul_one]; exact h2
  have hr : rq 1 (zv (.fin s c q) + zv (.fin t d r)) (zv (FP.Core.round FP.Core.b64 (.fin sg n e))) := by
    refine rq_of (by decide) h1' h2' (fun k k1 k2 => ?_)
    have h := rnd_k (s := sg) (c := n) (q := e) (e0 := FP.Core.b64.qmin) (Int.le_refl _) e2 k k1 k2
    rw [e3, Int.sub_self] at h
    exact h
  exact ⟨nb_of (FP.Core.round_fits gb _) round_nn h1' h2' hr, hr⟩
theorem dAdd_z {x y : Dm} (hx : nb x) (hy : nb y) (h1 : zv x + zv y ≤ 4503599627370496 * G0) (h2 : -(4503599627370496 * G0) ≤ zv x + zv y) : nb (dAdd x y) ∧ rq 1 (zv x + zv y) (zv (dAdd x y)) := by
  obtain ⟨s, c, q, rfl⟩ := nb_fin hx
  obtain ⟨t, d, r, rfl⟩ := nb_fin hy
  exact sum_rq hx.1 hy.1 (dAdd_r _ _) h1 h2
theorem dSub_z {x y : Dm} (hx : nb x) (hy : nb y) (h1 : zv x - zv y ≤ 4503599627370496 * G0) (h2 : -(4503599627370496 * G0) ≤ zv x - zv y) : nb (dSub x y) ∧ rq 1 (zv x - zv y) (zv (dSub x y)) := by
  obtain ⟨s, c, q, rfl⟩ := nb_fin hx
  obtain ⟨t, d, r, rfl⟩ := nb_fin hy
  have e : zv (.fin (!t) d r) = -zv (.fin t d r) := zv_neg (.fin t d r)
  have e2 : zv (.fin s c q) - zv (.fin t d r) = zv (.fin s c q) + zv (.fin (!t) d r) := by rw [e]; rfl
  rw [e2] at h1 h2 ⊢
  exact sum_rq hx.1 (FP.Core.negate_fits hy.1) (dSub_r _ _) h1 h2
theorem pow_qmin : ((2 ^ (FP.Core.b64.qmin - 2 * FP.Core.b64.qmin).toNat : Nat) : Int) = U0 := by decide +kernel
theorem dMul_z {x y : Dm} (hx : nb x) (hy : nb y) {a : Int} (ha : 4 * zv x = a * U0) (h1 : a * zv y ≤ 4503599627370496 * G0 * 4) (h2 : -(4503599627370496 * G0 * 4) ≤ a * zv y) : nb (dMul x y) ∧ rq 4 (a * zv y) (zv (dMul x y)) := by
  obtain ⟨s, c, q, rfl⟩ := nb_fin hx
  obtain ⟨t, d, r, rfl⟩ := nb_fin hy
  obtain ⟨e1, e2, e3⟩ := FP.Core.product_units hx.1 hy.1
  rw [dMul_r, e1]
  have hU := U0_pos
  have e4 : FP.Core.signed (s != t) (FP.Core.inUnits (c * d) (q + r) (2 * FP.Core.b64.qmin)) = zv (.fin s c q) * zv (.fin t d r) := by
    rw [e3, FP.Core.signed_xor]; rfl
  have e5 : 4 * (zv (.fin s c q) * zv (.fin t d r)) = a * zv (.fin t d r) * U0 := by
    rw [← Int.mul_assoc, ha, Int.mul_assoc, Int.mul_assoc, Int.mul_comm U0]
  have hr : rq 4 (a * zv (.fin t d r)) (zv (FP.Core.round FP.Core.b64 (.fin (s != t) (c * d) (q + r)))) := by
    refine rq_of (by decide) h1 h2 (fun k k1 k2 => ?_)
    have h := rnd_k (s := s != t) (c := c * d) (q := q + r) (e0 := 2 * FP.Core.b64.qmin) (by rw [qmin_b]; decide) e2 k k1 k2
    rw [e4, pow_qmin] at h
    have e6 : k * G0 * 4 * U0 = 4 * (k * G0 * U0) := by rw [Int.mul_comm (k * G0) 4, Int.mul_assoc]
    refine ⟨fun g => h.1 ?_, fun g => h.2 ?_⟩
    · have g2 := Int.mul_le_mul_of_nonneg_right g (Int.le_of_lt hU)
      rw [← e5, e6] at g2
      omega
    · have g2 := Int.mul_le_mul_of_nonneg_right g (Int.le_of_lt hU)
      rw [← e5, e6] at g2
      omega
  exact ⟨nb_of (FP.Core.round_fits gb _) round_nn h1 h2 hr, hr⟩
theorem dMul_c (x y : Dm) : dMul x y = dMul y x := by rw [dMul_r, dMul_r, FP.Core.exactProduct_comm]
theorem rq_zero {b : Int} (hb : 0 < b) : rq b 0 0 := by
  have hG := G0_pos
  have h1 : 0 ≤ b * G0 := Int.le_of_lt (Int.mul_pos hb hG)
  refine ⟨by rw [Int.zero_mul]; omega, by rw [Int.zero_mul]; omega, fun k _ _ => ⟨fun h => ?_, fun h => ?_⟩⟩
  · exact Int.nonneg_of_mul_nonneg_left h hb
  · rcases Int.lt_or_le 0 (k * G0) with g | g
    · have := Int.mul_pos g hb
      omega
    · exact g
theorem dDiv_z {x y : Dm} (hx : nb x) (hy : nb y) (hx0 : 0 ≤ zv x) {b : Int} (hb : 0 < b) (hy4 : 4 * zv y = b * U0) (h1 : 4 * zv x ≤ 4503599627370496 * G0 * b) : nb (dDiv x y) ∧ rq b (4 * zv x) (zv (dDiv x y)) ∧ 0 ≤ zv (dDiv x y) := by
  obtain ⟨s, c, q, rfl⟩ := nb_fin hx
  obtain ⟨t, d, r, rfl⟩ := nb_fin hy
  have hU := U0_pos
  have hG := G0_pos
  have hbU := Int.mul_pos hb hU
  have hG52 : 0 ≤ 4503599627370496 * G0 * b := Int.mul_nonneg (by omega) (Int.le_of_lt hb)
  have h2 : -(4503599627370496 * G0 * b) ≤ 4 * zv (.fin s c q) := by omega
  have hy0 : 0 < zv (.fin t d r) := by omega
  have ht : t = false := by
    cases t
    · rfl
    · have : zv (.fin true d r) = -((FP.Core.inUnits d r FP.Core.b64.qmin : Nat) : Int) := rfl
      omega
  subst ht
  have ey : zv (.fin false d r) = ((FP.Core.inUnits d r FP.Core.b64.qmin : Nat) : Int) := rfl
  have hd : 0 < d := by
    rcases Nat.eq_zero_or_pos d with h | h
    · subst h
      rw [ey] at hy0
      unfold FP.Core.inUnits at hy0
      rw [Nat.zero_mul] at hy0
      omega
    · exact h
  have eq1 : dDiv (.fin s c q) (.fin false d r) = FP.Core.roundRatio FP.Core.b64 (s != false) c d (q - r) := by
    rw [dDiv_r]
    show (if d = 0 then _ else _) = _
    rw [if_neg (by omega)]
  have hf : ft (FP.Core.roundRatio FP.Core.b64 (s != false) c d (q - r)) := FP.Core.roundRatio_fits gb _ _ hd _
  have hnn : FP.Core.roundRatio FP.Core.b64 (s != false) c d (q - r) ≠ .nan := FP.Core.roundRatio_ne_nan _ _ _ _ _
  rw [eq1]
  have key : rq b (4 * zv (.fin s c q)) (zv (FP.Core.roundRatio FP.Core.b64 (s != false) c d (q - r))) ∧ 0 ≤ zv (FP.Core.roundRatio FP.Core.b64 (s != false) c d (q - r)) := by
    cases s
    · have ez : zv (FP.Core.roundRatio FP.Core.b64 (false != false) c d (q - r)) = ((FP.Core.zmag FP.Core.b64 (FP.Core.roundRatio FP.Core.b64 (false != false) c d (q - r)) : Nat) : Int) := by
        show FP.Core.signed (FP.Core.sgn _) _ = _
        rw [FP.Core.sgn_roundRatio]; rfl
      have ex : zv (.fin false c q) = ((FP.Core.inUnits c q FP.Core.b64.qmin : Nat) : Int) := rfl
      have hq := hx.1.2.1
      have hr := hy.1.2.1
      rw [qmin_b] at hq hr
      have eA : FP.Core.inUnits c (q - r) (-2148 - r) = FP.Core.inUnits c q FP.Core.b64.qmin * 2 ^ 1074 := by
        unfold FP.Core.inUnits
        rw [qmin_b, show (q - r - (-2148 - r)).toNat = (q - -1074).toNat + 1074 by omega, Nat.pow_add, Nat.mul_assoc]
      have eB : ∀ v : Nat, v * 2 ^ (FP.Core.b64.qmin - (-2148 - r)).toNat * d = v * FP.Core.inUnits d r FP.Core.b64.qmin := by
        intro v
        unfold FP.Core.inUnits
        rw [qmin_b, show (-1074 - (-2148 - r)).toNat = (r - -1074).toNat by omega, Nat.mul_assoc, Nat.mul_comm _ d]
      rw [ez]
      refine ⟨rq_of hb h1 h2 (fun k k1 k2 => ⟨fun g => ?_, fun g => ?_⟩), Int.natCast_nonneg _⟩
      · have hk0 : 0 ≤ k * G0 := by
          rcases Int.lt_or_le (k * G0) 0 with z | z
          · have := Int.mul_neg_of_neg_of_pos z hb
            omega
          · exact z
        obtain ⟨V, hV, hn, eV⟩ := grid k k1 k2
        have eV2 : ((FP.Core.zmag FP.Core.b64 V : Nat) : Int) = k * G0 := by
          have a1 : (zv V).natAbs = FP.Core.zmag FP.Core.b64 V := FP.Core.natAbs_signed _ _
          omega
        have hle := FP.Core.zmag_roundRatio_le gb (s := false != false) (A := c) (B := d) (e := q - r) (e0 := -2148 - r) (V := V) hd hV hn (by rw [qmin_b]; omega) (by omega) (by
          rw [eA, eB]
          apply Int.ofNat_le.mp
          rw [Int.natCast_mul, Int.natCast_mul, eV2, ← ex, ← ey]
          have g2 := Int.mul_le_mul_of_nonneg_right g (Int.le_of_lt hU)
          have e7 : k * G0 * b * U0 = 4 * (k * G0 * zv (.fin false d r)) := by
            rw [Int.mul_assoc, ← hy4, ← Int.mul_assoc, Int.mul_comm (k * G0) 4, Int.mul_assoc]
          rw [e7, show 4 * zv (.fin false c q) * U0 = 4 * (zv (.fin false c q) * U0) from Int.mul_assoc _ _ _] at g2
          have e8 : ((2 ^ 1074 : Nat) : Int) = U0 := rfl
          rw [e8]
          omega)
        rw [← eV2]
        exact Int.ofNat_le.mpr hle
      · rcases Int.lt_or_le (k * G0) 0 with z | z
        · exact Int.le_trans (Int.le_of_lt z) (Int.natCast_nonneg _)
        · obtain ⟨V, hV, hn, eV⟩ := grid k k1 k2
          have eV2 : ((FP.Core.zmag FP.Core.b64 V : Nat) : Int) = k * G0 := by
            have a1 : (zv V).natAbs = FP.Core.zmag FP.Core.b64 V := FP.Core.natAbs_signed _ _
            omega
          have hge := FP.Core.zmag_roundRatio_ge gb (s := false != false) (A := c) (B := d) (e := q - r) (e0 := -2148 - r) (V := V) hd hV (by rw [qmin_b]; omega) (by omega) (by
            rw [eA, eB]
            apply Int.ofNat_le.mp
            rw [Int.natCast_mul, Int.natCast_mul, eV2, ← ex, ← ey]
            have g2 := Int.mul_le_mul_of_nonneg_right g (Int.le_of_lt hU)
            have e7 : k * G0 * b * U0 = 4 * (k * G0 * zv (.fin false d r)) := by
              rw [Int.mul_assoc, ← hy4, ← Int.mul_assoc, Int.mul_comm (k * G0) 4, Int.mul_assoc]
            rw [e7, show 4 * zv (.fin false c q) * U0 = 4 * (zv (.fin false c q) * U0) from Int.mul_assoc _ _ _] at g2
            have e8 : ((2 ^ 1074 : Nat) : Int) = U0 := rfl
            rw [e8]
            omega)
          rw [← eV2]
          exact Int.ofNat_le.mpr hge
    · have ex : zv (.fin true c q) = -((FP.Core.inUnits c q FP.Core.b64.qmin : Nat) : Int) := rfl
      have hz : zv (.fin true c q) = 0 := by omega
      have hi : FP.Core.inUnits c q FP.Core.b64.qmin = 0 := by omega
      have hc : c = 0 := by
        unfold FP.Core.inUnits at hi
        rcases Nat.mul_eq_zero.mp hi with h | h
        · exact h
        · have := Nat.two_pow_pos (q - FP.Core.b64.qmin).toNat
          omega
      subst hc
      have e0 : zv (FP.Core.roundRatio FP.Core.b64 (true != false) 0 d (q - r)) = 0 := by
        unfold FP.Core.roundRatio
        rw [if_pos rfl]
        show FP.Core.signed _ (FP.Core.inUnits 0 _ _) = 0
        unfold FP.Core.inUnits
        rw [Nat.zero_mul]
        exact FP.Core.signed_zero _
      rw [e0, hz, Int.mul_zero]
      exact ⟨rq_zero hb, Int.le_refl _⟩
  exact ⟨nb_of hf hnn h1 h2 key.1, key.1, key.2⟩
/-! comparisons -/
theorem dCmp_z {x y : Dm} (hx : nb x) (hy : nb y) : dCmp x y = some (compare (zv x) (zv y)) := FP.Core.order_zval gb hx.1 hy.1 hx.2.1 hy.2.1
theorem dCmp_lt {x y : Dm} (hx : nb x) (hy : nb y) : dCmp x y = some .lt ↔ zv x < zv y := by
  rw [dCmp_z hx hy, Option.some.injEq]
  exact Int.compare_eq_lt
theorem dCmp_gt {x y : Dm} (hx : nb x) (hy : nb y) : dCmp x y = some .gt ↔ zv y < zv x := by
  rw [dCmp_z hx hy, Option.some.injEq]
  exact Int.compare_eq_gt
theorem dCmp_eq {x y : Dm} (hx : nb x) (hy : nb y) : dCmp x y = some .eq ↔ zv x = zv y := by
  rw [dCmp_z hx hy, Option.some.injEq]
  exact Int.compare_eq_eq
theorem dMin_z {x y : Dm} (hx : nb x) (hy : nb y) : nb (dMin x y) ∧ zv (dMin x y) ≤ zv x ∧ zv (dMin x y) ≤ zv y ∧ (dMin x y = x ∨ dMin x y = y) := by
  unfold dMin
  by_cases c : dCmp x y = some .lt
  · rw [if_pos c]
    have := (dCmp_lt hx hy).mp c
    exact ⟨hx, Int.le_refl _, Int.le_of_lt this, Or.inl rfl⟩
  · rw [if_neg c]
    have : ¬ zv x < zv y := fun h => c ((dCmp_lt hx hy).mpr h)
    exact ⟨hy, Int.not_lt.mp this, Int.le_refl _, Or.inr rfl⟩
theorem dI_z {i : Int32} (h1 : -65536 ≤ i.toInt) (h2 : i.toInt ≤ 65536) : nb (dI i) ∧ zv (dI i) = i.toInt * U0 := by
  have hG := G0_pos
  have e : dI i = FP.Core.round FP.Core.b64 (.fin (decide (i.toInt < 0)) i.toInt.natAbs 0) := FP.Core.val64_i2d i
  have hu : FP.Core.signed (decide (i.toInt < 0)) (FP.Core.inUnits i.toInt.natAbs 0 FP.Core.b64.qmin) = i.toInt * U0 := by
    unfold FP.Core.inUnits
    rw [FP.Core.signed_mul, sgn_abs, qmin_b]; rfl
  have e2 : i.toInt * U0 = i.toInt * 68719476736 * G0 := by rw [U0_G0, Int.mul_assoc]
  have h := rnd_k (s := decide (i.toInt < 0)) (c := i.toInt.natAbs) (q := 0) (e0 := FP.Core.b64.qmin) (Int.le_refl _) (by rw [qmin_b]; decide) (i.toInt * 68719476736) (by omega) (by omega)
  rw [hu, Int.sub_self, ← e2] at h
  rw [← e] at h
  have h1' : i.toInt * U0 ≤ zv (dI i) := h.2 (Int.le_of_eq (Int.mul_one _))
  have h2' : zv (dI i) ≤ i.toInt * U0 := h.1 (Int.le_of_eq (Int.mul_one _).symm)
  have h3 : zv (dI i) = i.toInt * U0 := Int.le_antisymm h2' h1'
  refine ⟨⟨dt_ft _, by rw [e]; exact round_nn, ?_, ?_⟩, h3⟩
  · rw [h3, e2]
    exact Int.mul_le_mul_of_nonneg_right (by omega) (Int.le_of_lt hG)
  · rw [h3, e2, ← Int.neg_mul]
    exact Int.mul_le_mul_of_nonneg_right (by omega) (Int.le_of_lt hG)
