/-! WHAT A CLOSE GIVES, by values: nothing is lost but some steps -/
theorem sub_self_z {x : Dm} (hx : qd x) : qd (dSub x x) ∧ zv (dSub x x) = 0 := by
  have hU := U0_pos
  obtain ⟨h1, h2⟩ := qd_sub hx hx (by omega) (by omega)
  exact ⟨h1, by rw [h2]; omega⟩
/-- by need, where the rest isn't enough -/
theorem part_z {L : Dm} {V : Nat → Dm} (hL : qd L) (hL0 : 0 ≤ zv L) (hL1 : zv L ≤ 100 * U0) (hV : fine V) (hs : zv L < zv (sumD V 5)) : (∀ i, i < 5 → nb (dDiv (dMul L (V i)) (sumD V 5)) ∧ 0 ≤ zv (dDiv (dMul L (V i)) (sumD V 5)) ∧ zv (dDiv (dMul L (V i)) (sumD V 5)) ≤ zv (V i)) ∧
    (zv (dDiv (dMul L (V 0)) (sumD V 5)) + zv (dDiv (dMul L (V 1)) (sumD V 5)) + zv (dDiv (dMul L (V 2)) (sumD V 5)) + zv (dDiv (dMul L (V 3)) (sumD V 5)) + zv (dDiv (dMul L (V 4)) (sumD V 5)) ≤ zv L + 5 * G0) ∧
    zv L ≤ zv (dDiv (dMul L (V 0)) (sumD V 5)) + zv (dDiv (dMul L (V 1)) (sumD V 5)) + zv (dDiv (dMul L (V 2)) (sumD V 5)) + zv (dDiv (dMul L (V 3)) (sumD V 5)) + zv (dDiv (dMul L (V 4)) (sumD V 5)) + 5 * G0 := by
  have hG := G0_pos
  have hQ := Q0_pos
  have hUQ := U0_Q0
  have hQG := Q0_G0
  obtain ⟨⟨ns, S, eS⟩, es, -, hs1⟩ := sum5_z hV
  obtain ⟨nL, l, eL⟩ := hL
  have hS0 : 0 < S := by
    refine Int.lt_of_mul_lt_mul_right (a := Q0) ?_ (Int.le_of_lt hQ)
    rw [← eS, Int.zero_mul]; omega
  have hl0 : 0 ≤ l := by
    refine Int.le_of_mul_le_mul_right (a := Q0) ?_ hQ
    rw [← eL, Int.zero_mul]; exact hL0
  have hl1 : l ≤ 400 := by
    refine Int.le_of_mul_le_mul_right (a := Q0) ?_ hQ
    rw [← eL]; omega
  have hlS : l ≤ S := by
    refine Int.le_of_mul_le_mul_right (a := Q0) ?_ hQ
    rw [← eL, ← eS]; omega
  -- each
  have each : ∀ i, i < 5 → ∃ v : Int, zv (V i) = v * Q0 ∧ 0 ≤ v ∧ nb (dDiv (dMul L (V i)) (sumD V 5)) ∧ 0 ≤ zv (dDiv (dMul L (V i)) (sumD V 5)) ∧ zv (dDiv (dMul L (V i)) (sumD V 5)) ≤ zv (V i) ∧ zv (dDiv (dMul L (V i)) (sumD V 5)) * S ≤ l * v * Q0 + S * G0 ∧ l * v * Q0 ≤ zv (dDiv (dMul L (V i)) (sumD V 5)) * S + S * G0 := by
    intro i hi
    obtain ⟨⟨nv, v, ev⟩, v0, v1⟩ := hV i hi
    have hv0 : 0 ≤ v := by
      refine Int.le_of_mul_le_mul_right (a := Q0) ?_ hQ
      rw [← ev, Int.zero_mul]; exact v0
    have hv1 : v ≤ 200 := by
      refine Int.le_of_mul_le_mul_right (a := Q0) ?_ hQ
      rw [← ev]; omega
    have w0 : 0 ≤ l * v := Int.mul_nonneg hl0 hv0
    have w1 : l * v ≤ 80000 := Int.le_trans (Int.mul_le_mul hl1 hv1 hv0 (by decide)) (by decide)
    have ep : l * zv (V i) = l * v * 4294967296 * G0 * 4 := by
      rw [ev, ← Int.mul_assoc, k_G0, show l * v * 17179869184 = 4 * (l * v * 4294967296) by omega, Int.mul_assoc 4, Int.mul_comm 4]
    have wb : l * v * 4294967296 * G0 ≤ 343597383680000 * G0 := Int.mul_le_mul_of_nonneg_right (by omega) (Int.le_of_lt hG)
    have wa : 0 ≤ l * v * 4294967296 * G0 := Int.mul_nonneg (by omega) (Int.le_of_lt hG)
    obtain ⟨n1, r1⟩ := dMul_z nL nv (a := l) (by rw [eL, hUQ, ← Int.mul_assoc, ← Int.mul_assoc, Int.mul_comm 4]) (by rw [ep]; omega) (by rw [ep]; omega)
    have e1 := rq_ex (by decide) r1 ep (by rw [ep]; omega) (by rw [ep]; omega)
    have e2 : 4 * zv (dMul L (V i)) = l * v * Q0 := by
      rw [e1, k_G0, show l * v * 17179869184 = 4 * (l * v * 4294967296) by omega, Int.mul_assoc 4]
    have c1 : l * v * Q0 ≤ 80000 * Q0 := Int.mul_le_mul_of_nonneg_right w1 (Int.le_of_lt hQ)
    have hbig : 4503599627370496 * G0 ≤ 4503599627370496 * G0 * S := by
      have := Int.mul_le_mul_of_nonneg_left (show (1 : Int) ≤ S by omega) (show (0 : Int) ≤ 4503599627370496 * G0 by omega)
      rw [Int.mul_one] at this; exact this
    obtain ⟨n2, r2, z2⟩ := dDiv_z n1 ns (by rw [e1]; exact wa) hS0 (by rw [eS, hUQ, ← Int.mul_assoc, ← Int.mul_assoc, Int.mul_comm 4]) (by rw [e2]; omega)
    rw [e2] at r2
    have h3 := (r2.2.2 (v * 17179869184) (by omega) (by omega)).1 (by
      rw [← k_G0, Int.mul_comm (v * Q0) S, ← Int.mul_assoc]
      exact Int.mul_le_mul_of_nonneg_right (Int.mul_le_mul_of_nonneg_right hlS hv0) (Int.le_of_lt hQ))
    rw [← k_G0, ← ev] at h3
    exact ⟨v, ev, hv0, n2, z2, h3, r2.1, r2.2.1⟩
  refine ⟨fun i hi => by obtain ⟨v, -, -, a1, a2, a3, -⟩ := each i hi; exact ⟨a1, a2, a3⟩, ?_⟩
  obtain ⟨v0, f0, -, -, -, -, a0, b0⟩ := each 0 (by omega)
  obtain ⟨v1, f1, -, -, -, -, a1, b1⟩ := each 1 (by omega)
  obtain ⟨v2, f2, -, -, -, -, a2, b2⟩ := each 2 (by omega)
  obtain ⟨v3, f3, -, -, -, -, a3, b3⟩ := each 3 (by omega)
  obtain ⟨v4, f4, -, -, -, -, a4, b4⟩ := each 4 (by omega)
  generalize zv (dDiv (dMul L (V 0)) (sumD V 5)) = g0 at *
  generalize zv (dDiv (dMul L (V 1)) (sumD V 5)) = g1 at *
  generalize zv (dDiv (dMul L (V 2)) (sumD V 5)) = g2 at *
  generalize zv (dDiv (dMul L (V 3)) (sumD V 5)) = g3 at *
  generalize zv (dDiv (dMul L (V 4)) (sumD V 5)) = g4 at *
  have eV : v0 + v1 + v2 + v3 + v4 = S := by
    refine Int.eq_of_mul_eq_mul_right (Int.ne_of_gt hQ) ?_
    rw [Int.add_mul, Int.add_mul, Int.add_mul, Int.add_mul, ← eS, es]
    omega
  have eT : l * v0 * Q0 + l * v1 * Q0 + l * v2 * Q0 + l * v3 * Q0 + l * v4 * Q0 = zv L * S := by
    rw [← Int.add_mul, ← Int.add_mul, ← Int.add_mul, ← Int.add_mul, ← Int.mul_add, ← Int.mul_add, ← Int.mul_add, ← Int.mul_add, eV, eL, Int.mul_assoc, Int.mul_assoc, Int.mul_comm S]
  have eX : (g0 + g1 + g2 + g3 + g4) * S = g0 * S + g1 * S + g2 * S + g3 * S + g4 * S := by rw [Int.add_mul, Int.add_mul, Int.add_mul, Int.add_mul]
  have eY : (zv L + 5 * G0) * S = zv L * S + 5 * (S * G0) := by rw [Int.add_mul, Int.mul_assoc, Int.mul_comm G0]
  have eZ : (g0 + g1 + g2 + g3 + g4 + 5 * G0) * S = g0 * S + g1 * S + g2 * S + g3 * S + g4 * S + 5 * (S * G0) := by rw [Int.add_mul, eX, Int.mul_assoc, Int.mul_comm G0]
  constructor
  · refine Int.le_of_mul_le_mul_right (a := S) ?_ hS0
    rw [eX, eY]; omega
  · refine Int.le_of_mul_le_mul_right (a := S) ?_ hS0
    rw [eZ]; omega
/-- what the sun leaves: needs V3, the rest L2, what was given F -/
theorem sun_z {s : Nat} {sh : Nat → Int32} {hc : Nat → Nat} {V : Nat → Dm} (hs : s ≤ 100) (hsh : ∀ i, i < 5 → sh i = nI (hc i) ∧ hc i ≤ 4) (hsum : hc 0 + hc 1 + hc 2 + hc 3 + hc 4 ≤ 4) (hV : fine V) {n : Nat} {F : Nat → Dm} (hF : ∀ i, i < 5 → F (5 * n + i) = dZ) :
    (∀ i, i < 5 → nb (kV3 (nI s) sh V i) ∧ 0 ≤ zv (kV3 (nI s) sh V i) ∧ zv (kV3 (nI s) sh V i) ≤ 50 * U0) ∧
    (∀ i, i < 5 → nb (kF (nI s) sh V n F (5 * n + i)) ∧ 0 ≤ zv (kF (nI s) sh V n F (5 * n + i)) ∧ zv (kF (nI s) sh V n F (5 * n + i)) + zv (kV3 (nI s) sh V i) ≤ zv (V i) + 2 * G0 ∧ zv (V i) ≤ zv (kF (nI s) sh V n F (5 * n + i)) + zv (kV3 (nI s) sh V i) + 2 * G0) ∧
    qd (kL2 (nI s) sh V) ∧ 0 ≤ zv (kL2 (nI s) sh V) ∧ zv (kL2 (nI s) sh V) ≤ 100 * U0 ∧
    zv (kF (nI s) sh V n F (5 * n + 0)) + zv (kF (nI s) sh V n F (5 * n + 1)) + zv (kF (nI s) sh V n F (5 * n + 2)) + zv (kF (nI s) sh V n F (5 * n + 3)) + zv (kF (nI s) sh V n F (5 * n + 4)) + zv (kL2 (nI s) sh V) ≤ (s : Int) * U0 + 10 * G0 ∧
    (s : Int) * U0 ≤ zv (kF (nI s) sh V n F (5 * n + 0)) + zv (kF (nI s) sh V n F (5 * n + 1)) + zv (kF (nI s) sh V n F (5 * n + 2)) + zv (kF (nI s) sh V n F (5 * n + 3)) + zv (kF (nI s) sh V n F (5 * n + 4)) + zv (kL2 (nI s) sh V) + 10 * G0 := by
  have hG := G0_pos
  have hU := U0_pos
  have hUG := U0_G0
  have sb : (s : Int) * U0 ≤ 100 * U0 := Int.mul_le_mul_of_nonneg_right (by omega) (Int.le_of_lt hU)
  obtain ⟨f2, e2⟩ := kV2_z hs hsh hV
  obtain ⟨q5, t5, p5, p6⟩ := sum5_z f2
  obtain ⟨ql, el⟩ := lS_z hs hsh hsum hV 5 (Nat.le_refl _)
  have ut := uS_sum hs hsh hsum hV
  rw [sz_5] at el ut
  have hu := uS_z hs hsh hV
  have h0 : zv (kL1 (nI s) sh V) = (s : Int) * U0 - (zv (uS (nI s) sh V 0) + zv (uS (nI s) sh V 1) + zv (uS (nI s) sh V 2) + zv (uS (nI s) sh V 3) + zv (uS (nI s) sh V 4)) := el
  have ql : qd (kL1 (nI s) sh V) := ql
  have u0 := (hu 0 (by omega)).2.1
  have u1 := (hu 1 (by omega)).2.1
  have u2 := (hu 2 (by omega)).2.1
  have u3 := (hu 3 (by omega)).2.1
  have u4 := (hu 4 (by omega)).2.1
  have l0 : 0 ≤ zv (kL1 (nI s) sh V) := by omega
  have l1 : zv (kL1 (nI s) sh V) ≤ 100 * U0 := by omega
  have hfS : ∀ i, i < 5 → qd (fS (nI s) sh V n F (5 * n + i)) ∧ zv (fS (nI s) sh V n F (5 * n + i)) = zv (uS (nI s) sh V i) := by
    intro i hi
    obtain ⟨a1, a2, a3, -⟩ := hu i hi
    obtain ⟨-, -, b3⟩ := hV i hi
    have e : fS (nI s) sh V n F (5 * n + i) = dAdd dZ (uS (nI s) sh V i) := by
      unfold fS
      rw [po_in _ _ hi, hF i hi]
    rw [e]
    obtain ⟨c1, c2⟩ := qd_add qd_dZ a1 (by rw [zv_dZ]; omega) (by rw [zv_dZ]; omega)
    exact ⟨c1, by rw [c2, zv_dZ, Int.zero_add]⟩
  by_cases cN : noNeed (kV2 (nI s) sh V)
  · -- nobody needs
    have ez := (dCmp_eq q5.1 nb_dZ).mp cN
    rw [zv_dZ] at ez
    have eF : kF (nI s) sh V n F = fS (nI s) sh V n F := by unfold kF fE; rw [if_pos cN]
    have e3 : kV3 (nI s) sh V = kV2 (nI s) sh V := by funext i; unfold kV3 nE; rw [if_pos cN]
    have eL : kL2 (nI s) sh V = kL1 (nI s) sh V := by unfold kL2 lE; rw [if_pos cN]
    rw [eF, e3, eL, (hfS 0 (by omega)).2, (hfS 1 (by omega)).2, (hfS 2 (by omega)).2, (hfS 3 (by omega)).2, (hfS 4 (by omega)).2]
    refine ⟨fun i hi => ⟨(f2 i hi).1.1, (f2 i hi).2.1, (f2 i hi).2.2⟩, fun i hi => ?_, ql, l0, l1, by omega, by omega⟩
    have := e2 i hi
    rw [(hfS i hi).2]
    exact ⟨(hfS i hi).1.1, (hu i hi).2.1, by omega, by omega⟩
  · by_cases cE : enough (kV2 (nI s) sh V) (kL1 (nI s) sh V)
    · -- enough for all
      have hle : zv (sumD (kV2 (nI s) sh V) 5) ≤ zv (kL1 (nI s) sh V) := by
        rcases cE with c | c
        · exact Int.le_of_lt ((dCmp_lt q5.1 ql.1).mp c)
        · exact Int.le_of_eq ((dCmp_eq q5.1 ql.1).mp c)
      have eL : kL2 (nI s) sh V = dSub (kL1 (nI s) sh V) (sumD (kV2 (nI s) sh V) 5) := by unfold kL2 lE; rw [if_neg cN, if_pos cE]
      obtain ⟨qL, zL⟩ := qd_sub ql q5 (by omega) (by omega)
      have e3 : ∀ i, kV3 (nI s) sh V i = dSub (kV2 (nI s) sh V i) (kV2 (nI s) sh V i) := by
        intro i
        unfold kV3 nE gE
        rw [if_neg cN, if_pos cE]
      have eF : ∀ i, i < 5 → qd (kF (nI s) sh V n F (5 * n + i)) ∧ zv (kF (nI s) sh V n F (5 * n + i)) = zv (uS (nI s) sh V i) + zv (kV2 (nI s) sh V i) := by
        intro i hi
        obtain ⟨a1, a2⟩ := hfS i hi
        obtain ⟨b1, b2, b3⟩ := f2 i hi
        obtain ⟨-, -, c3⟩ := hV i hi
        have e : kF (nI s) sh V n F (5 * n + i) = dAdd (fS (nI s) sh V n F (5 * n + i)) (kV2 (nI s) sh V i) := by
          unfold kF fE gE
          rw [if_neg cN, po_in _ _ hi, if_pos cE]
        rw [e]
        have hui := hu i hi
        obtain ⟨d1, d2⟩ := qd_add a1 b1 (by omega) (by omega)
        exact ⟨d1, by rw [d2, a2]⟩
      rw [eL]
      rw [(eF 0 (by omega)).2, (eF 1 (by omega)).2, (eF 2 (by omega)).2, (eF 3 (by omega)).2, (eF 4 (by omega)).2]
      refine ⟨fun i hi => ?_, fun i hi => ?_, qL, by omega, by omega, by omega, by omega⟩
      · obtain ⟨a1, a2⟩ := sub_self_z (f2 i hi).1
        rw [e3 i]
        exact ⟨a1.1, by omega, by omega⟩
      · obtain ⟨a1, a2⟩ := sub_self_z (f2 i hi).1
        have := e2 i hi
        have hui := (hu i hi).2.1
        have hvi := (f2 i hi).2.1
        rw [e3 i, a2, (eF i hi).2]
        exact ⟨(eF i hi).1.1, by omega, by omega, by omega⟩
    · -- by need
      have hlt : zv (kL1 (nI s) sh V) < zv (sumD (kV2 (nI s) sh V) 5) := by
        rcases Int.lt_trichotomy (zv (sumD (kV2 (nI s) sh V) 5)) (zv (kL1 (nI s) sh V)) with c | c | c
        · exact absurd (Or.inl ((dCmp_lt q5.1 ql.1).mpr c)) cE
        · exact absurd (Or.inr ((dCmp_eq q5.1 ql.1).mpr c)) cE
        · exact c
      obtain ⟨gz, gs1, gs2⟩ := part_z ql l0 l1 f2 hlt
      have eg : ∀ i, gE (kV2 (nI s) sh V) (kL1 (nI s) sh V) i = dDiv (dMul (kL1 (nI s) sh V) (kV2 (nI s) sh V i)) (sumD (kV2 (nI s) sh V) 5) := fun i => by unfold gE; rw [if_neg cE]
      simp only [← eg] at gz gs1 gs2
      have eL : kL2 (nI s) sh V = dZ := by unfold kL2 lE; rw [if_neg cN, if_neg cE]
      have e3 : ∀ i, i < 5 → nb (kV3 (nI s) sh V i) ∧ rq 1 (zv (kV2 (nI s) sh V i) - zv (gE (kV2 (nI s) sh V) (kL1 (nI s) sh V) i)) (zv (kV3 (nI s) sh V i)) := by
        intro i hi
        obtain ⟨a1, a2, a3⟩ := gz i hi
        obtain ⟨b1, b2, b3⟩ := f2 i hi
        have e : kV3 (nI s) sh V i = dSub (kV2 (nI s) sh V i) (gE (kV2 (nI s) sh V) (kL1 (nI s) sh V) i) := by unfold kV3 nE; rw [if_neg cN]
        rw [e]
        exact dSub_z b1.1 a1 (by omega) (by omega)
      have eF : ∀ i, i < 5 → nb (kF (nI s) sh V n F (5 * n + i)) ∧ rq 1 (zv (uS (nI s) sh V i) + zv (gE (kV2 (nI s) sh V) (kL1 (nI s) sh V) i)) (zv (kF (nI s) sh V n F (5 * n + i))) := by
        intro i hi
        obtain ⟨a1, a2⟩ := hfS i hi
        obtain ⟨b1, b2, b3⟩ := gz i hi
        have e : kF (nI s) sh V n F (5 * n + i) = dAdd (fS (nI s) sh V n F (5 * n + i)) (gE (kV2 (nI s) sh V) (kL1 (nI s) sh V) i) := by
          unfold kF fE
          rw [if_neg cN, po_in _ _ hi]
        have hui := hu i hi
        have hvi := f2 i hi
        obtain ⟨-, -, c3⟩ := hV i hi
        rw [e, ← a2]
        exact dAdd_z a1.1 b1 (by rw [a2]; omega) (by rw [a2]; omega)
      rw [eL, zv_dZ]
      have F0 := rq1 (eF 0 (by omega)).2
      have F1 := rq1 (eF 1 (by omega)).2
      have F2 := rq1 (eF 2 (by omega)).2
      have F3 := rq1 (eF 3 (by omega)).2
      have F4 := rq1 (eF 4 (by omega)).2
      refine ⟨fun i hi => ?_, fun i hi => ?_, qd_dZ, Int.le_refl _, by omega, ?_, ?_⟩
      · obtain ⟨a1, a2⟩ := e3 i hi
        obtain ⟨b1, b2, b3⟩ := gz i hi
        obtain ⟨c1, c2, c3⟩ := f2 i hi
        exact ⟨a1, rq1_0 a2 (by omega), rq1_u a2 (j := 50) (by decide) (by decide) (by omega)⟩
      · obtain ⟨a1, a2⟩ := e3 i hi
        obtain ⟨b1, b2, b3⟩ := gz i hi
        obtain ⟨c1, c2⟩ := eF i hi
        have d2 := e2 i hi
        have hui := (hu i hi).2.1
        have A := rq1 a2
        have C := rq1 c2
        have A1 := A.1
        have A2 := A.2.1
        have C1 := C.1
        have C2 := C.2.1
        exact ⟨c1, rq1_0 c2 (by omega), by omega, by omega⟩
      · have a0 := F0.1
        have a1 := F1.1
        have a2 := F2.1
        have a3 := F3.1
        have a4 := F4.1
        omega
      · have a0 := F0.2.1
        have a1 := F1.2.1
        have a2 := F2.2.1
        have a3 := F3.2.1
        have a4 := F4.2.1
        omega
/-- stored or sold -/
theorem store_z {S L : Dm} (hS : nb S) (hS0 : 0 ≤ zv S) (hS1 : zv S ≤ 40 * U0) (hL : qd L) (hL0 : 0 ≤ zv L) (hL1 : zv L ≤ 100 * U0) :
    nb (soN S L) ∧ 0 ≤ zv (soN S L) ∧ zv (soN S L) ≤ 40 * U0 ∧ nb (szN S L) ∧ 0 ≤ zv (szN S L) ∧ zv (szN S L) ≤ 100 * U0 ∧ zv (soN S L) + zv (szN S L) ≤ zv S + zv L + 2 * G0 ∧ zv S + zv L ≤ zv (soN S L) + zv (szN S L) + 2 * G0 := by
  have hG := G0_pos
  have hU := U0_pos
  have hUG := U0_G0
  obtain ⟨nr, r1⟩ := dSub_z nb_d40 hS (by rw [zv_d40]; omega) (by rw [zv_d40]; omega)
  rw [zv_d40] at r1
  have R := rq1 r1
  have R1 := R.1
  have R2 := R.2.1
  have R0 := rq1_0 r1 (by omega)
  by_cases c : dCmp L (dSub d40 S) = some .lt
  · have e1 : soN S L = dAdd S L := by unfold soN; rw [if_pos c]
    have e2 : szN S L = dZ := by unfold szN; rw [if_pos c]
    have hlt := (dCmp_lt hL.1 nr).mp c
    obtain ⟨nL, a, ea⟩ := hL
    have hsum : zv S + zv L ≤ 40 * U0 := by
      rcases Int.lt_or_le (40 * U0) (zv S + zv L) with g | g
      · exfalso
        have ha : zv L = a * 17179869184 * G0 := by rw [ea, k_G0]
        have b1 : a * 17179869184 ≤ 6871947673600 := by
          refine Int.le_of_mul_le_mul_right (a := G0) ?_ hG
          rw [← ha]; omega
        have b2 : 0 ≤ a * 17179869184 := by
          refine Int.le_of_mul_le_mul_right (a := G0) ?_ hG
          rw [← ha]; omega
        have := (R.2.2 (a * 17179869184) (by omega) (by omega)).1 (by rw [← ha]; omega)
        rw [← ha] at this
        omega
      · exact g
    obtain ⟨n1, q1⟩ := dAdd_z hS nL (by omega) (by omega)
    have A := rq1 q1
    have A1 := A.1
    have A2 := A.2.1
    rw [e1, e2, zv_dZ]
    exact ⟨n1, rq1_0 q1 (by omega), rq1_u q1 (j := 40) (by decide) (by decide) (by omega), nb_dZ, Int.le_refl _, by omega, by omega, by omega⟩
  · have e1 : soN S L = d40 := by unfold soN; rw [if_neg c]
    have e2 : szN S L = dSub L (dSub d40 S) := by unfold szN; rw [if_neg c]
    have hge : zv (dSub d40 S) ≤ zv L := Int.not_lt.mp (fun g => c ((dCmp_lt hL.1 nr).mpr g))
    obtain ⟨n1, q1⟩ := dSub_z hL.1 nr (by omega) (by omega)
    have A := rq1 q1
    have A1 := A.1
    have A2 := A.2.1
    rw [e1, e2, zv_d40]
    exact ⟨nb_d40, by omega, by omega, n1, rq1_0 q1 (by omega), rq1_u q1 (j := 100) (by decide) (by decide) (by omega), by omega, by omega⟩
