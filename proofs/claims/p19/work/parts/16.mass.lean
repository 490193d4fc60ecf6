/-! QUARTERS OF ONE: exact numbers -/
def Q0 : Int := 17179869184 * G0
theorem Q0_G0 : Q0 = 17179869184 * G0 := rfl
theorem U0_Q0 : U0 = 4 * Q0 := by rw [U0_G0, Q0_G0]; omega
theorem Q0_pos : 0 < Q0 := by have := G0_pos; rw [Q0_G0]; omega
def qd (d : Dm) : Prop := nb d ∧ ∃ a : Int, zv d = a * Q0
theorem k_G0 (a : Int) : a * Q0 = a * 17179869184 * G0 := by rw [Q0_G0, Int.mul_assoc]
theorem rq_ex {b k n r : Int} (hb : 0 < b) (h : rq b n r) (e : n = k * G0 * b) (h1 : n ≤ 4503599627370496 * G0 * b) (h2 : -(4503599627370496 * G0 * b) ≤ n) : r = k * G0 := by
  have hG := G0_pos
  have hD : 0 < G0 * b := Int.mul_pos hG hb
  have b1 : k ≤ 4503599627370496 := by
    refine Int.le_of_mul_le_mul_right (a := G0 * b) ?_ hD
    rw [← Int.mul_assoc, ← Int.mul_assoc, ← e]; exact h1
  have b2 : -4503599627370496 ≤ k := by
    refine Int.le_of_mul_le_mul_right (a := G0 * b) ?_ hD
    rw [← Int.mul_assoc, ← Int.mul_assoc, ← e, Int.neg_mul, Int.neg_mul]; exact h2
  have h3 := h.2.2 k (by omega) (by omega)
  exact Int.le_antisymm (h3.1 (Int.le_of_eq e)) (h3.2 (Int.le_of_eq e.symm))
theorem rq1 {n r : Int} (h : rq 1 n r) : r ≤ n + G0 ∧ n ≤ r + G0 ∧ ∀ k : Int, -9007199254740992 < k → k < 9007199254740992 → (n ≤ k * G0 → r ≤ k * G0) ∧ (k * G0 ≤ n → k * G0 ≤ r) := by
  obtain ⟨h1, h2, h3⟩ := h
  rw [Int.mul_one, Int.one_mul] at h1 h2
  refine ⟨h1, h2, fun k k1 k2 => ?_⟩
  have := h3 k k1 k2
  rw [Int.mul_one] at this
  exact this
theorem rq1_0 {n r : Int} (h : rq 1 n r) (h0 : 0 ≤ n) : 0 ≤ r := by
  have := ((rq1 h).2.2 0 (by omega) (by omega)).2 (by omega)
  omega
theorem rq1_u {n r : Int} (h : rq 1 n r) {j : Int} (j1 : -65536 ≤ j) (j2 : j ≤ 65536) (h0 : n ≤ j * U0) : r ≤ j * U0 := by
  have e : j * U0 = j * 68719476736 * G0 := by rw [U0_G0, Int.mul_assoc]
  rw [e] at h0 ⊢
  exact ((rq1 h).2.2 _ (by omega) (by omega)).1 h0
theorem qd_add {x y : Dm} (hx : qd x) (hy : qd y) (h1 : zv x + zv y ≤ 65536 * U0) (h2 : -(65536 * U0) ≤ zv x + zv y) : qd (dAdd x y) ∧ zv (dAdd x y) = zv x + zv y := by
  obtain ⟨nx, a, ea⟩ := hx
  obtain ⟨ny, b, eb⟩ := hy
  have hU := U0_G0
  have g1 : zv x + zv y ≤ 4503599627370496 * G0 := by omega
  have g2 : -(4503599627370496 * G0) ≤ zv x + zv y := by omega
  obtain ⟨h3, h4⟩ := dAdd_z nx ny g1 g2
  have e : zv x + zv y = (a + b) * 17179869184 * G0 := by rw [ea, eb, ← Int.add_mul, k_G0]
  have h5 : zv (dAdd x y) = (a + b) * 17179869184 * G0 := rq_ex (by decide) h4 (by rw [Int.mul_one]; exact e) (by rw [Int.mul_one]; exact g1) (by rw [Int.mul_one]; exact g2)
  exact ⟨⟨h3, a + b, by rw [h5, k_G0]⟩, by rw [h5, e]⟩
theorem qd_sub {x y : Dm} (hx : qd x) (hy : qd y) (h1 : zv x - zv y ≤ 65536 * U0) (h2 : -(65536 * U0) ≤ zv x - zv y) : qd (dSub x y) ∧ zv (dSub x y) = zv x - zv y := by
  obtain ⟨nx, a, ea⟩ := hx
  obtain ⟨ny, b, eb⟩ := hy
  have hU := U0_G0
  have g1 : zv x - zv y ≤ 4503599627370496 * G0 := by omega
  have g2 : -(4503599627370496 * G0) ≤ zv x - zv y := by omega
  obtain ⟨h3, h4⟩ := dSub_z nx ny g1 g2
  have e : zv x - zv y = (a - b) * 17179869184 * G0 := by rw [ea, eb, ← Int.sub_mul, k_G0]
  have h5 : zv (dSub x y) = (a - b) * 17179869184 * G0 := rq_ex (by decide) h4 (by rw [Int.mul_one]; exact e) (by rw [Int.mul_one]; exact g1) (by rw [Int.mul_one]; exact g2)
  exact ⟨⟨h3, a - b, by rw [h5, k_G0]⟩, by rw [h5, e]⟩
theorem qd_min {x y : Dm} (hx : qd x) (hy : qd y) : qd (dMin x y) ∧ zv (dMin x y) ≤ zv x ∧ zv (dMin x y) ≤ zv y ∧ (dMin x y = x ∨ dMin x y = y) := by
  obtain ⟨h1, h2, h3, h4⟩ := dMin_z hx.1 hy.1
  refine ⟨?_, h2, h3, h4⟩
  rcases h4 with e | e <;> rw [e] <;> assumption
theorem zv_dZ : zv dZ = 0 := by decide +kernel
theorem nb_dZ : nb dZ := ⟨dt_ft _, by decide +kernel, by decide +kernel, by decide +kernel⟩
theorem qd_dZ : qd dZ := ⟨nb_dZ, 0, by rw [zv_dZ, Int.zero_mul]⟩
theorem zv_d2 : zv d2 = 2 * U0 := by decide +kernel
theorem zv_d4 : zv d4 = 4 * U0 := by decide +kernel
theorem zv_d10 : zv d10 = 10 * U0 := by decide +kernel
theorem zv_d40 : zv d40 = 40 * U0 := by decide +kernel
theorem zv_d100 : zv d100 = 100 * U0 := by decide +kernel
theorem nb_d2 : nb d2 := ⟨dt_ft _, by decide +kernel, by decide +kernel, by decide +kernel⟩
theorem nb_d4 : nb d4 := ⟨dt_ft _, by decide +kernel, by decide +kernel, by decide +kernel⟩
theorem nb_d10 : nb d10 := ⟨dt_ft _, by decide +kernel, by decide +kernel, by decide +kernel⟩
theorem nb_d40 : nb d40 := ⟨dt_ft _, by decide +kernel, by decide +kernel, by decide +kernel⟩
theorem nb_d100 : nb d100 := ⟨dt_ft _, by decide +kernel, by decide +kernel, by decide +kernel⟩
theorem qd_d40 : qd d40 := ⟨nb_d40, 160, by rw [zv_d40, U0_Q0]; omega⟩
theorem toInt_nI {k : Nat} (h : k < 2147483648) : (nI k).toInt = (k : Int) := by
  show (Int32.ofNat k).toInt = _
  exact Int32.toInt_ofNat_of_lt h
theorem qd_nI {k : Nat} (h : k ≤ 65536) : qd (dI (nI k)) ∧ zv (dI (nI k)) = (k : Int) * U0 := by
  have e := toInt_nI (k := k) (by omega)
  obtain ⟨h1, h2⟩ := dI_z (i := nI k) (by omega) (by omega)
  rw [e] at h2
  exact ⟨⟨h1, 4 * (k : Int), by rw [h2, U0_Q0, ← Int.mul_assoc, Int.mul_comm (k : Int) 4]⟩, h2⟩
/-- the sun by a share -/
theorem share_z {s h : Nat} (hs : s ≤ 100) (hh : h ≤ 4) : qd (dDiv (dMul (dI (nI s)) (dI (nI h))) d4) ∧ zv (dDiv (dMul (dI (nI s)) (dI (nI h))) d4) = ((s * h : Nat) : Int) * Q0 := by
  have hG := G0_pos
  obtain ⟨⟨n1, -⟩, e1⟩ := qd_nI (k := s) (by omega)
  obtain ⟨⟨n2, -⟩, e2⟩ := qd_nI (k := h) (by omega)
  have hb : s * h ≤ 400 := Nat.le_trans (Nat.mul_le_mul hs hh) (by decide)
  have ep : 4 * (s : Int) * zv (dI (nI h)) = ((s * h : Nat) : Int) * 68719476736 * G0 * 4 := by
    rw [e2, U0_G0, Int.natCast_mul, Int.mul_assoc 4, ← Int.mul_assoc (s : Int), ← Int.mul_assoc ((s : Int) * h), Int.mul_comm 4]
  generalize hw : ((s * h : Nat) : Int) = w at ep
  have hw0 : 0 ≤ w := by omega
  have hw1 : w ≤ 400 := by omega
  have b0 : 0 ≤ w * 68719476736 * G0 := Int.mul_nonneg (by omega) (Int.le_of_lt hG)
  have b1 : w * 68719476736 * G0 ≤ 27487790694400 * G0 := Int.mul_le_mul_of_nonneg_right (by omega) (Int.le_of_lt hG)
  have g1 : 4 * (s : Int) * zv (dI (nI h)) ≤ 4503599627370496 * G0 * 4 := by rw [ep]; omega
  have g2 : -(4503599627370496 * G0 * 4) ≤ 4 * (s : Int) * zv (dI (nI h)) := by rw [ep]; omega
  obtain ⟨n3, r3⟩ := dMul_z n1 n2 (a := 4 * (s : Int)) (by rw [e1, Int.mul_assoc]) g1 g2
  have e3 := rq_ex (by decide) r3 ep g1 g2
  have ep2 : 4 * zv (dMul (dI (nI s)) (dI (nI h))) = w * 17179869184 * G0 * 16 := by
    have e8 : w * 68719476736 * G0 = 4 * (w * 17179869184 * G0) := by rw [show w * 68719476736 = 4 * (w * 17179869184) by omega, Int.mul_assoc 4]
    rw [e3, e8]
    omega
  have b2 : w * 17179869184 * G0 ≤ 27487790694400 * G0 := Int.mul_le_mul_of_nonneg_right (by omega) (Int.le_of_lt hG)
  have b3 : 0 ≤ w * 17179869184 * G0 := Int.mul_nonneg (by omega) (Int.le_of_lt hG)
  have g3 : 4 * zv (dMul (dI (nI s)) (dI (nI h))) ≤ 4503599627370496 * G0 * 16 := by rw [ep2]; omega
  obtain ⟨n4, r4, -⟩ := dDiv_z n3 nb_d4 (by omega) (b := 16) (by decide) (by rw [zv_d4]; omega) g3
  have e4 := rq_ex (by decide) r4 ep2 g3 (by rw [ep2]; omega)
  rw [← k_G0] at e4
  exact ⟨⟨n4, w, e4⟩, e4⟩
/-! sums -/
def sz (f : Nat → Int) : Nat → Int
  | 0 => 0
  | k + 1 => sz f k + f k
theorem sz_nn {f : Nat → Int} : ∀ {k : Nat}, (∀ j, j < k → 0 ≤ f j) → 0 ≤ sz f k
  | 0, _ => Int.le_refl _
  | k + 1, h => by
    have h1 := sz_nn (k := k) (fun j hj => h j (by omega))
    have h2 := h k (by omega)
    show 0 ≤ sz f k + f k
    omega
theorem sz_5 (f : Nat → Int) : sz f 5 = f 0 + f 1 + f 2 + f 3 + f 4 := by
  show 0 + f 0 + f 1 + f 2 + f 3 + f 4 = _
  rw [Int.zero_add]
theorem sz_le {f : Nat → Int} {n : Nat} (h : ∀ j, j < n → 0 ≤ f j) : ∀ k, k ≤ n → sz f k ≤ sz f n := by
  induction n with
  | zero => intro k hk; obtain rfl : k = 0 := by omega
            exact Int.le_refl _
  | succ n ih =>
    intro k hk
    by_cases e : k = n + 1
    · subst e; exact Int.le_refl _
    · have h1 := ih (fun j hj => h j (by omega)) k (by omega)
      have h2 := h n (by omega)
      show sz f k ≤ sz f n + f n
      omega
/-- five exact needs -/
def fine (V : Nat → Dm) : Prop := ∀ i, i < 5 → qd (V i) ∧ 0 ≤ zv (V i) ∧ zv (V i) ≤ 50 * U0
theorem sumD_z {V : Nat → Dm} (h : fine V) : ∀ k, k ≤ 5 → qd (sumD V k) ∧ zv (sumD V k) = sz (fun j => zv (V j)) k ∧ 0 ≤ zv (sumD V k) ∧ zv (sumD V k) ≤ 50 * (k : Int) * U0
  | 0, _ => ⟨qd_dZ, zv_dZ, by rw [show sumD V 0 = dZ from rfl, zv_dZ]; exact Int.le_refl _, by rw [show sumD V 0 = dZ from rfl, zv_dZ]; omega⟩
  | k + 1, hk => by
    have hU := U0_pos
    obtain ⟨h1, h2, h3, h4⟩ := sumD_z h k (by omega)
    obtain ⟨q1, q2, q3⟩ := h k (by omega)
    have e : 50 * ((k + 1 : Nat) : Int) * U0 = 50 * (k : Int) * U0 + 50 * U0 := by
      rw [Int.natCast_add, Int.mul_add, Int.add_mul]; rfl
    have b : 50 * (k : Int) * U0 ≤ 200 * U0 := Int.mul_le_mul_of_nonneg_right (by omega) (Int.le_of_lt hU)
    obtain ⟨a1, a2⟩ := qd_add h1 q1 (by omega) (by omega)
    have a3 : zv (sumD V (k + 1)) = zv (sumD V k) + zv (V k) := a2
    refine ⟨a1, ?_, by omega, by rw [e]; omega⟩
    rw [a3, h2]; rfl
theorem sum5_z {V : Nat → Dm} (h : fine V) : qd (sumD V 5) ∧ zv (sumD V 5) = zv (V 0) + zv (V 1) + zv (V 2) + zv (V 3) + zv (V 4) ∧ 0 ≤ zv (sumD V 5) ∧ zv (sumD V 5) ≤ 250 * U0 := by
  obtain ⟨h1, h2, h3, h4⟩ := sumD_z h 5 (Nat.le_refl _)
  rw [sz_5] at h2
  exact ⟨h1, h2, h3, h4⟩
/-! the sun by shares -/
section SUN
variable {s : Nat} {sh : Nat → Int32} {hc : Nat → Nat} {V : Nat → Dm}
theorem uS_z (hs : s ≤ 100) (hsh : ∀ i, i < 5 → sh i = nI (hc i) ∧ hc i ≤ 4) (hV : fine V) : ∀ i, i < 5 → qd (uS (nI s) sh V i) ∧ 0 ≤ zv (uS (nI s) sh V i) ∧ zv (uS (nI s) sh V i) ≤ zv (V i) ∧ zv (uS (nI s) sh V i) ≤ ((s * hc i : Nat) : Int) * Q0 := by
  intro i hi
  obtain ⟨e, h4⟩ := hsh i hi
  obtain ⟨q1, q2, q3⟩ := hV i hi
  obtain ⟨z1, z2⟩ := share_z hs h4
  have hQ := Q0_pos
  obtain ⟨m1, m2, m3, m4⟩ := qd_min z1 q1
  have m0 : 0 ≤ zv (dDiv (dMul (dI (nI s)) (dI (nI (hc i)))) d4) := by rw [z2]; exact Int.mul_nonneg (Int.natCast_nonneg _) (Int.le_of_lt hQ)
  unfold uS
  rw [e]
  refine ⟨m1, ?_, m3, by rw [← z2]; exact m2⟩
  rcases m4 with g | g
  · rw [g]; exact m0
  · rw [g]; exact q2
theorem kV2_z (hs : s ≤ 100) (hsh : ∀ i, i < 5 → sh i = nI (hc i) ∧ hc i ≤ 4) (hV : fine V) : fine (kV2 (nI s) sh V) ∧ ∀ i, i < 5 → zv (kV2 (nI s) sh V i) = zv (V i) - zv (uS (nI s) sh V i) := by
  have hU := U0_pos
  have key : ∀ i, i < 5 → qd (kV2 (nI s) sh V i) ∧ zv (kV2 (nI s) sh V i) = zv (V i) - zv (uS (nI s) sh V i) := by
    intro i hi
    obtain ⟨u1, u2, u3, -⟩ := uS_z hs hsh hV i hi
    obtain ⟨q1, q2, q3⟩ := hV i hi
    exact qd_sub q1 u1 (by omega) (by omega)
  refine ⟨fun i hi => ?_, fun i hi => (key i hi).2⟩
  obtain ⟨k1, k2⟩ := key i hi
  obtain ⟨u1, u2, u3, -⟩ := uS_z hs hsh hV i hi
  obtain ⟨q1, q2, q3⟩ := hV i hi
  exact ⟨k1, by omega, by omega⟩
theorem uS_sum (hs : s ≤ 100) (hsh : ∀ i, i < 5 → sh i = nI (hc i) ∧ hc i ≤ 4) (hsum : hc 0 + hc 1 + hc 2 + hc 3 + hc 4 ≤ 4) (hV : fine V) : sz (fun j => zv (uS (nI s) sh V j)) 5 ≤ (s : Int) * U0 := by
  have hQ := Q0_pos
  rw [sz_5]
  obtain ⟨-, -, -, a0⟩ := uS_z hs hsh hV 0 (by omega)
  obtain ⟨-, -, -, a1⟩ := uS_z hs hsh hV 1 (by omega)
  obtain ⟨-, -, -, a2⟩ := uS_z hs hsh hV 2 (by omega)
  obtain ⟨-, -, -, a3⟩ := uS_z hs hsh hV 3 (by omega)
  obtain ⟨-, -, -, a4⟩ := uS_z hs hsh hV 4 (by omega)
  have e : ((s * hc 0 : Nat) : Int) * Q0 + ((s * hc 1 : Nat) : Int) * Q0 + ((s * hc 2 : Nat) : Int) * Q0 + ((s * hc 3 : Nat) : Int) * Q0 + ((s * hc 4 : Nat) : Int) * Q0 = ((s * (hc 0 + hc 1 + hc 2 + hc 3 + hc 4) : Nat) : Int) * Q0 := by
    rw [← Int.add_mul, ← Int.add_mul, ← Int.add_mul, ← Int.add_mul, Nat.mul_add, Nat.mul_add, Nat.mul_add, Nat.mul_add]
    simp only [Int.natCast_add]
  have b : ((s * (hc 0 + hc 1 + hc 2 + hc 3 + hc 4) : Nat) : Int) * Q0 ≤ ((s * 4 : Nat) : Int) * Q0 := Int.mul_le_mul_of_nonneg_right (Int.ofNat_le.mpr (Nat.mul_le_mul_left s hsum)) (Int.le_of_lt hQ)
  have e2 : ((s * 4 : Nat) : Int) * Q0 = (s : Int) * U0 := by rw [U0_Q0, Int.natCast_mul, Int.mul_assoc]; rfl
  rw [e2] at b
  omega
theorem lS_z (hs : s ≤ 100) (hsh : ∀ i, i < 5 → sh i = nI (hc i) ∧ hc i ≤ 4) (hsum : hc 0 + hc 1 + hc 2 + hc 3 + hc 4 ≤ 4) (hV : fine V) : ∀ k, k ≤ 5 → qd (lS (nI s) sh V (dI (nI s)) k) ∧ zv (lS (nI s) sh V (dI (nI s)) k) = (s : Int) * U0 - sz (fun j => zv (uS (nI s) sh V j)) k
  | 0, _ => by
    obtain ⟨h1, h2⟩ := qd_nI (k := s) (by omega)
    exact ⟨h1, by rw [show lS (nI s) sh V (dI (nI s)) 0 = dI (nI s) from rfl, h2]; show _ = _ - 0; omega⟩
  | k + 1, hk => by
    have hU := U0_pos
    obtain ⟨h1, h2⟩ := lS_z hs hsh hsum hV k (by omega)
    obtain ⟨u1, u2, u3, -⟩ := uS_z hs hsh hV k (by omega)
    have t1 := uS_sum hs hsh hsum hV
    have nn : ∀ j, j < 5 → 0 ≤ (fun j => zv (uS (nI s) sh V j)) j := fun j hj => (uS_z hs hsh hV j hj).2.1
    have t2 := sz_le nn (k + 1) (by omega)
    have t3 := sz_nn (f := fun j => zv (uS (nI s) sh V j)) (k := k) (fun j hj => nn j (by omega))
    have t4 : sz (fun j => zv (uS (nI s) sh V j)) (k + 1) = sz (fun j => zv (uS (nI s) sh V j)) k + zv (uS (nI s) sh V k) := rfl
    have sb : (s : Int) * U0 ≤ 100 * U0 := Int.mul_le_mul_of_nonneg_right (by omega) (Int.le_of_lt hU)
    obtain ⟨a1, a2⟩ := qd_sub h1 u1 (by omega) (by omega)
    refine ⟨a1, ?_⟩
    rw [show lS (nI s) sh V (dI (nI s)) (k + 1) = dSub (lS (nI s) sh V (dI (nI s)) k) (uS (nI s) sh V k) from rfl, a2, h2, t4]
    omega
end SUN
