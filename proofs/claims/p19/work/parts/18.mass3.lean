/-! the battery's turns, bills, and what the law asks of a closed quarter -/
theorem up_at {α : Type} (f : Nat → α) (k : Nat) (x : α) : va_up f k x k = x := by unfold va_up; rw [if_pos rfl]
theorem up_ne {α : Type} (f : Nat → α) {k j : Nat} (x : α) (h : j ≠ k) : va_up f k x j = f j := by unfold va_up; rw [if_neg h]
theorem gbs_z {t b : Nat} {V : Nat → Dm} {B : Dm} {G : Nat → Dm} (ht : t < 5) (hV : ∀ i, i < 5 → nb (V i) ∧ 0 ≤ zv (V i) ∧ zv (V i) ≤ 50 * U0) (hB : nb B ∧ 0 ≤ zv B ∧ zv B ≤ 40 * U0) (hG : ∀ i, i < 5 → G (b + i) = dZ) : ∀ k, k ≤ 5 →
    (∀ i, i < 5 → nb ((gbs t b V B G k).1 i) ∧ 0 ≤ zv ((gbs t b V B G k).1 i) ∧ zv ((gbs t b V B G k).1 i) ≤ 50 * U0) ∧
    (nb (gbs t b V B G k).2.1 ∧ 0 ≤ zv (gbs t b V B G k).2.1 ∧ zv (gbs t b V B G k).2.1 ≤ 40 * U0) ∧
    (∀ i, i < 5 → k ≤ (i + 5 - t) % 5 → (gbs t b V B G k).2.2.1 (b + i) = dZ) ∧
    (∀ i, i < 5 → nb ((gbs t b V B G k).2.2.1 (b + i)) ∧ 0 ≤ zv ((gbs t b V B G k).2.2.1 (b + i)) ∧ zv ((gbs t b V B G k).2.2.1 (b + i)) ≤ 40 * U0 ∧ zv ((gbs t b V B G k).1 i) + zv ((gbs t b V B G k).2.2.1 (b + i)) ≤ zv (V i) + (k : Int) * G0 ∧ zv (V i) ≤ zv ((gbs t b V B G k).1 i) + zv ((gbs t b V B G k).2.2.1 (b + i)) + (k : Int) * G0) ∧
    zv (gbs t b V B G k).2.1 + sz (fun i => zv ((gbs t b V B G k).2.2.1 (b + i))) 5 ≤ zv B + (k : Int) * G0 ∧ zv B ≤ zv (gbs t b V B G k).2.1 + sz (fun i => zv ((gbs t b V B G k).2.2.1 (b + i))) 5 + (k : Int) * G0
  | 0, _ => by
    have e : gbs t b V B G 0 = (V, B, G, none) := rfl
    rw [e]
    have hU := U0_pos
    refine ⟨hV, hB, fun i hi _ => hG i hi, fun i hi => ?_, ?_, ?_⟩
    · show nb (G (b + i)) ∧ 0 ≤ zv (G (b + i)) ∧ zv (G (b + i)) ≤ 40 * U0 ∧ zv (V i) + zv (G (b + i)) ≤ zv (V i) + _ ∧ zv (V i) ≤ zv (V i) + zv (G (b + i)) + _
      rw [hG i hi, zv_dZ]
      exact ⟨nb_dZ, by omega, by omega, by omega, by omega⟩
    · show zv B + sz (fun i => zv (G (b + i))) 5 ≤ _
      rw [sz_5, hG 0 (by omega), hG 1 (by omega), hG 2 (by omega), hG 3 (by omega), hG 4 (by omega), zv_dZ]
      omega
    · show _ ≤ zv B + sz (fun i => zv (G (b + i))) 5 + _
      rw [sz_5, hG 0 (by omega), hG 1 (by omega), hG 2 (by omega), hG 3 (by omega), hG 4 (by omega), zv_dZ]
      omega
  | k + 1, hk => by
    obtain ⟨h1, h2, h3, h4, h5, h6⟩ := gbs_z ht hV hB hG k (by omega)
    have hU := U0_pos
    have hGp := G0_pos
    have hUG := U0_G0
    have ek : ((k + 1 : Nat) : Int) * G0 = (k : Int) * G0 + G0 := by rw [Int.natCast_add, Int.add_mul]; show _ + 1 * G0 = _; rw [Int.one_mul]
    have ho : (t + k) % 5 < 5 := Nat.mod_lt _ (by decide)
    have e : gbs t b V B G (k + 1) = (va_up (gbs t b V B G k).1 ((t + k) % 5) (dSub ((gbs t b V B G k).1 ((t + k) % 5)) (dMin ((gbs t b V B G k).1 ((t + k) % 5)) (gbs t b V B G k).2.1)), dSub (gbs t b V B G k).2.1 (dMin ((gbs t b V B G k).1 ((t + k) % 5)) (gbs t b V B G k).2.1), va_up (gbs t b V B G k).2.2.1 (b + (t + k) % 5) (dMin ((gbs t b V B G k).1 ((t + k) % 5)) (gbs t b V B G k).2.1), if dCmp (dMin ((gbs t b V B G k).1 ((t + k) % 5)) (gbs t b V B G k).2.1) dZ = some .gt then some ((t + k) % 5) else (gbs t b V B G k).2.2.2) := rfl
    rw [e]
    have hoz := h3 ((t + k) % 5) ho (by omega)
    obtain ⟨o, eo⟩ : ∃ o, o = (t + k) % 5 := ⟨_, rfl⟩
    rw [← eo] at ho hoz ⊢
    generalize gbs t b V B G k = r at h1 h2 h3 h4 h5 h6 hoz ⊢
    obtain ⟨W, S, K, y⟩ := r
    dsimp only at h1 h2 h3 h4 h5 h6 hoz ⊢
    obtain ⟨w1, w2, w3⟩ := h1 o ho
    obtain ⟨s1, s2, s3⟩ := h2
    obtain ⟨m1, m2, m3, m4⟩ := dMin_z w1 s1
    have m0 : 0 ≤ zv (dMin (W o) S) := by
      rcases m4 with g | g
      · rw [g]; exact w2
      · rw [g]; exact s2
    generalize dMin (W o) S = x at m0 m1 m2 m3 m4 ⊢
    obtain ⟨n1, q1⟩ := dSub_z w1 m1 (by omega) (by omega)
    obtain ⟨n2, q2⟩ := dSub_z s1 m1 (by omega) (by omega)
    have A := rq1 q1
    have A1 := A.1
    have A2 := A.2.1
    have B1 := (rq1 q2).1
    have B2 := (rq1 q2).2.1
    have A0 := rq1_0 q1 (by omega)
    have B0 := rq1_0 q2 (by omega)
    have A5 := rq1_u q1 (j := 50) (by decide) (by decide) (by omega)
    have B5 := rq1_u q2 (j := 40) (by decide) (by decide) (by omega)
    have ew : zv (K (b + o)) = 0 := by rw [hoz, zv_dZ]
    have hs : sz (fun i => zv (va_up K (b + o) x (b + i))) 5 = sz (fun i => zv (K (b + i))) 5 + zv x := by
      rw [sz_5, sz_5]
      have hc : ∀ i, i ≠ o → zv (va_up K (b + o) x (b + i)) = zv (K (b + i)) := fun i hi => by rw [up_ne _ _ (by omega)]
      have hx : zv (va_up K (b + o) x (b + o)) = zv x := by rw [up_at]
      rcases (show o = 0 ∨ o = 1 ∨ o = 2 ∨ o = 3 ∨ o = 4 by omega) with rfl | rfl | rfl | rfl | rfl
      · rw [hx, hc 1 (by omega), hc 2 (by omega), hc 3 (by omega), hc 4 (by omega)]; omega
      · rw [hx, hc 0 (by omega), hc 2 (by omega), hc 3 (by omega), hc 4 (by omega)]; omega
      · rw [hx, hc 0 (by omega), hc 1 (by omega), hc 3 (by omega), hc 4 (by omega)]; omega
      · rw [hx, hc 0 (by omega), hc 1 (by omega), hc 2 (by omega), hc 4 (by omega)]; omega
      · rw [hx, hc 0 (by omega), hc 1 (by omega), hc 2 (by omega), hc 3 (by omega)]; omega
    refine ⟨fun i hi => ?_, ⟨n2, B0, B5⟩, fun i hi hk2 => ?_, fun i hi => ?_, by rw [hs, ek]; omega, by rw [hs, ek]; omega⟩
    · by_cases c : i = o
      · subst c; rw [up_at]; exact ⟨n1, A0, A5⟩
      · rw [up_ne _ _ c]; exact h1 i hi
    · have hne : i ≠ o := by
        rintro rfl
        rw [eo] at hk2
        omega
      rw [up_ne _ _ (by omega)]
      exact h3 i hi (by omega)
    · by_cases c : i = o
      · subst c
        obtain ⟨-, -, -, c4, c5⟩ := h4 i hi
        rw [up_at, up_at, ek]
        rw [ew] at c4 c5
        exact ⟨m1, m0, by omega, by omega, by omega⟩
      · rw [up_ne _ _ c, up_ne _ _ (by omega), ek]
        obtain ⟨c1, c2, c3, c4, c5⟩ := h4 i hi
        exact ⟨c1, c2, c3, by omega, by omega⟩
theorem gB_z {t n : Nat} {V : Nat → Dm} {L S : Dm} {G : Nat → Dm} (ht : t < 5) (hV : ∀ i, i < 5 → nb (V i) ∧ 0 ≤ zv (V i) ∧ zv (V i) ≤ 50 * U0) (hS : nb S ∧ 0 ≤ zv S ∧ zv S ≤ 40 * U0) (hG : ∀ i, i < 5 → G (5 * n + i) = dZ) :
    (∀ i, i < 5 → nb ((gB t n V L S G).1 i) ∧ 0 ≤ zv ((gB t n V L S G).1 i) ∧ zv ((gB t n V L S G).1 i) ≤ 50 * U0) ∧
    (nb (gB t n V L S G).2.1 ∧ 0 ≤ zv (gB t n V L S G).2.1 ∧ zv (gB t n V L S G).2.1 ≤ 40 * U0) ∧
    (∀ i, i < 5 → nb ((gB t n V L S G).2.2.1 (5 * n + i)) ∧ 0 ≤ zv ((gB t n V L S G).2.2.1 (5 * n + i)) ∧ zv ((gB t n V L S G).2.2.1 (5 * n + i)) ≤ 40 * U0 ∧ zv ((gB t n V L S G).1 i) + zv ((gB t n V L S G).2.2.1 (5 * n + i)) ≤ zv (V i) + 5 * G0 ∧ zv (V i) ≤ zv ((gB t n V L S G).1 i) + zv ((gB t n V L S G).2.2.1 (5 * n + i)) + 5 * G0) ∧
    zv (gB t n V L S G).2.1 + (zv ((gB t n V L S G).2.2.1 (5 * n + 0)) + zv ((gB t n V L S G).2.2.1 (5 * n + 1)) + zv ((gB t n V L S G).2.2.1 (5 * n + 2)) + zv ((gB t n V L S G).2.2.1 (5 * n + 3)) + zv ((gB t n V L S G).2.2.1 (5 * n + 4))) ≤ zv S + 5 * G0 ∧
    zv S ≤ zv (gB t n V L S G).2.1 + (zv ((gB t n V L S G).2.2.1 (5 * n + 0)) + zv ((gB t n V L S G).2.2.1 (5 * n + 1)) + zv ((gB t n V L S G).2.2.1 (5 * n + 2)) + zv ((gB t n V L S G).2.2.1 (5 * n + 3)) + zv ((gB t n V L S G).2.2.1 (5 * n + 4))) + 5 * G0 := by
  have hU := U0_pos
  have hGp := G0_pos
  unfold gB
  by_cases c : dCmp L dZ = some .eq
  · rw [if_pos c]
    obtain ⟨h1, h2, -, h4, h5, h6⟩ := gbs_z ht hV hS hG 5 (Nat.le_refl _)
    rw [sz_5] at h5 h6
    exact ⟨h1, h2, h4, h5, h6⟩
  · rw [if_neg c]
    refine ⟨hV, hS, fun i hi => ?_, ?_, ?_⟩
    · show nb (G (5 * n + i)) ∧ 0 ≤ zv (G (5 * n + i)) ∧ zv (G (5 * n + i)) ≤ _ ∧ zv (V i) + zv (G (5 * n + i)) ≤ _ ∧ _ ≤ zv (V i) + zv (G (5 * n + i)) + _
      rw [hG i hi, zv_dZ]
      exact ⟨nb_dZ, by omega, by omega, by omega, by omega⟩
    · show zv S + (zv (G _) + zv (G _) + zv (G _) + zv (G _) + zv (G _)) ≤ _
      rw [hG 0 (by omega), hG 1 (by omega), hG 2 (by omega), hG 3 (by omega), hG 4 (by omega), zv_dZ]
      omega
    · show _ ≤ zv S + (zv (G _) + zv (G _) + zv (G _) + zv (G _) + zv (G _)) + _
      rw [hG 0 (by omega), hG 1 (by omega), hG 2 (by omega), hG 3 (by omega), hG 4 (by omega), zv_dZ]
      omega
/-- a price: one to four fourths -/
def prc (P : Dm) : Prop := nb P ∧ ∃ p : Int, 1 ≤ p ∧ p ≤ 4 ∧ 4 * zv P = p * U0
theorem by_price {P x : Dm} (hP : prc P) (hx : nb x) {j : Int} (j0 : 0 ≤ j) (j1 : j ≤ 1000) (h0 : -(j * U0) ≤ zv x) (h1 : zv x ≤ j * U0) : nb (dMul x P) ∧ zv (dMul x P) ≤ j * U0 ∧ -(j * U0) ≤ zv (dMul x P) ∧ (0 ≤ zv x → 0 ≤ zv (dMul x P)) := by
  obtain ⟨nP, p, p1, p2, e⟩ := hP
  have hG := G0_pos
  have hU := U0_pos
  have e1 : j * U0 = j * 68719476736 * G0 := by rw [U0_G0, Int.mul_assoc]
  have bj : j * 68719476736 * G0 ≤ 68719476736000 * G0 := Int.mul_le_mul_of_nonneg_right (by omega) (Int.le_of_lt hG)
  have ju : 0 ≤ j * U0 := Int.mul_nonneg j0 (Int.le_of_lt hU)
  have e2 : j * 68719476736 * G0 * 4 = 4 * (j * U0) := by rw [e1, Int.mul_comm]
  have e3 : -(j * 68719476736) * G0 * 4 = -(4 * (j * U0)) := by rw [Int.neg_mul, Int.neg_mul, e2]
  have hp1 : p * zv x ≤ 4 * (j * U0) := by
    refine Int.le_trans (Int.mul_le_mul_of_nonneg_left h1 (by omega)) ?_
    exact Int.mul_le_mul_of_nonneg_right p2 ju
  have hp0 : -(4 * (j * U0)) ≤ p * zv x := by
    have a := Int.mul_le_mul_of_nonneg_left h0 (show 0 ≤ p by omega)
    have b := Int.mul_le_mul_of_nonneg_right p2 ju
    rw [Int.mul_neg] at a
    omega
  obtain ⟨n1, r1⟩ := dMul_z nP hx e (by omega) (by omega)
  rw [dMul_c]
  have a1 := (r1.2.2 (j * 68719476736) (by omega) (by omega)).1 (by rw [e2]; exact hp1)
  have a2 := (r1.2.2 (-(j * 68719476736)) (by omega) (by omega)).2 (by rw [e3]; exact hp0)
  rw [← e1] at a1
  rw [Int.neg_mul, ← e1] at a2
  refine ⟨n1, a1, a2, fun h => ?_⟩
  have a3 := (r1.2.2 0 (by omega) (by omega)).2 (by rw [Int.zero_mul, Int.zero_mul]; exact Int.mul_nonneg (by omega) h)
  rw [Int.zero_mul] at a3
  exact a3
theorem bill_z {B V P Z : Dm} {c : Nat} (hc : c ≤ 1000) (hB : nb B ∧ zv B ≤ (c : Int) * (64 * U0) ∧ -((c : Int) * (64 * U0)) ≤ zv B) (hV : nb V ∧ 0 ≤ zv V ∧ zv V ≤ 50 * U0) (hP : prc P) (hZ : nb Z ∧ 0 ≤ zv Z ∧ zv Z ≤ 100 * U0) :
    nb (dSub (dAdd B (dMul V P)) (dDiv (dMul Z P) d10)) ∧ zv (dSub (dAdd B (dMul V P)) (dDiv (dMul Z P) d10)) ≤ ((c + 1 : Nat) : Int) * (64 * U0) ∧ -(((c + 1 : Nat) : Int) * (64 * U0)) ≤ zv (dSub (dAdd B (dMul V P)) (dDiv (dMul Z P) d10)) := by
  have hG := G0_pos
  have hU := U0_pos
  have hUG := U0_G0
  obtain ⟨b1, b2, b3⟩ := hB
  obtain ⟨v1, v2, v3⟩ := hV
  obtain ⟨z1, z2, z3⟩ := hZ
  have ec : ((c + 1 : Nat) : Int) * (64 * U0) = (c : Int) * (64 * U0) + 64 * U0 := by rw [Int.natCast_add, Int.add_mul]; show _ + 1 * _ = _; rw [Int.one_mul]
  have bc : (c : Int) * (64 * U0) ≤ 1000 * (64 * U0) := Int.mul_le_mul_of_nonneg_right (by omega) (by omega)
  obtain ⟨m1, m2, m3, m4⟩ := by_price hP v1 (j := 50) (by decide) (by decide) (by omega) v3
  have m4 := m4 v2
  obtain ⟨w1, w2, w3, w4⟩ := by_price hP z1 (j := 100) (by decide) (by decide) (by omega) z3
  have w4 := w4 z2
  obtain ⟨d1, d2, d3⟩ := dDiv_z w1 nb_d10 w4 (b := 40) (by decide) (by rw [zv_d10]; omega) (by omega)
  have d4 := (d2.2.2 687194767360 (by omega) (by omega)).1 (by omega)
  obtain ⟨a1, a2⟩ := dAdd_z b1 m1 (by omega) (by omega)
  have A1 := (rq1 a2).1
  have A2 := (rq1 a2).2.1
  obtain ⟨s1, s2⟩ := dSub_z a1 d1 (by omega) (by omega)
  have S1 := (rq1 s2).1
  have S2 := (rq1 s2).2.1
  refine ⟨s1, by rw [ec]; omega, by rw [ec]; omega⟩
/-- near enough -/
abbrev dE : Dm := dt 4517329193108106637
theorem nb_dE : nb dE := ⟨dt_ft _, by decide +kernel, by decide +kernel, by decide +kernel⟩
theorem zv_dE : 60000 * G0 < zv dE := by decide +kernel
def isNr (x y : Dm) : Prop := dCmp (dSub x y) dE = some .lt ∧ dCmp (dSub y x) dE = some .lt
theorem near_z {x y : Dm} (hx : nb x) (hy : nb y) (h1 : zv x ≤ zv y + 1000 * G0) (h2 : zv y ≤ zv x + 1000 * G0) : isNr x y := by
  have hG := G0_pos
  have hE := zv_dE
  obtain ⟨a1, a2⟩ := dSub_z hx hy (by omega) (by omega)
  obtain ⟨b1, b2⟩ := dSub_z hy hx (by omega) (by omega)
  have A1 := (rq1 a2).1
  have B1 := (rq1 b2).1
  exact ⟨(dCmp_lt a1 nb_dE).mpr (by omega), (dCmp_lt b1 nb_dE).mpr (by omega)⟩
