/-! WHAT HOLDS OF A STATE behind any calls, and what a close gives -/
def half (d : Dm) : Prop := qd d ∧ 0 ≤ zv d ∧ zv d ≤ 50 * U0
def whl (d : Dm) : Prop := ∃ k : Nat, k ≤ 50 ∧ d = dI (nI k)
def Inv (c : Nat) (σ : St) : Prop :=
  Ok σ ∧ (∃ hc : Nat → Nat, (∀ i, i < 5 → s_sh σ i = nI (hc i) ∧ hc i ≤ 4) ∧ hc 0 + hc 1 + hc 2 + hc 3 + hc 4 ≤ 4) ∧
  (∀ i, i < 5 → ∃ k : Nat, k ≤ 50 ∧ s_tu σ i = nI k) ∧
  prc (s_pr σ) ∧ (nb (s_so σ) ∧ 0 ≤ zv (s_so σ) ∧ zv (s_so σ) ≤ 40 * U0) ∧
  (∀ i, i < 5 → nb (s_bi σ i) ∧ zv (s_bi σ i) ≤ (c : Int) * (64 * U0) ∧ -((c : Int) * (64 * U0)) ≤ zv (s_bi σ i)) ∧
  (∀ q, q < s_n σ → prc (s_lp σ q) ∧ nb (s_lz σ q)) ∧
  (∀ j, j < 5 * s_n σ → half (s_lu σ j) ∧ (s_lk σ j ≠ 0 → whl (s_lu σ j)) ∧ half (s_ld σ j) ∧ nb (s_lf σ j) ∧ nb (s_lw σ j)) ∧
  (∀ j, 5 * s_n σ ≤ j → s_lf σ j = dZ ∧ s_lb σ j = dZ)
theorem whl_z {d : Dm} (h : whl d) : qd d ∧ ∃ k : Nat, k ≤ 50 ∧ zv d = (k : Int) * U0 := by
  obtain ⟨k, hk, rfl⟩ := h
  obtain ⟨h1, h2⟩ := qd_nI (k := k) (by omega)
  exact ⟨h1, k, hk, h2⟩
theorem k_le {k : Nat} {m : Int} (h : (k : Int) ≤ m) : (k : Int) * U0 ≤ m * U0 := Int.mul_le_mul_of_nonneg_right h (Int.le_of_lt U0_pos)
theorem k_nn (k : Nat) : 0 ≤ (k : Int) * U0 := Int.mul_nonneg (Int.natCast_nonneg _) (Int.le_of_lt U0_pos)
theorem whl_half {d : Dm} (h : whl d) : half d := by
  obtain ⟨h1, k, hk, e⟩ := whl_z h
  have := k_le (k := k) (m := 50) (by omega)
  have := k_nn k
  exact ⟨h1, by omega, by omega⟩
/-! guesses -/
theorem gst_z {K : Nat → Int32} {U : Nat → Dm} {o n : Nat} (ho : o < 5) (h : ∀ j, j < 5 * n → K j ≠ 0 → whl (U j)) : ∀ i, i ≤ n → qd (gst K U o n i).2 ∧ ∃ k : Nat, k ≤ 50 * (gst K U o n i).1 ∧ zv (gst K U o n i).2 = (k : Int) * U0
  | 0, _ => ⟨qd_dZ, 0, Nat.zero_le _, by rw [show (gst K U o n 0).2 = dZ from rfl, zv_dZ]; omega⟩
  | i + 1, hi => by
    obtain ⟨h1, k, hk, e⟩ := gst_z ho h i (by omega)
    unfold gst
    by_cases c : (gst K U o n i).1 < 2 ∧ ¬ K (5 * (n - 1 - i) + o) = 0
    · rw [if_pos c]
      obtain ⟨w1, m, hm, e2⟩ := whl_z (h (5 * (n - 1 - i) + o) (by omega) c.2)
      have a1 := k_le (k := k) (m := 50) (by omega)
      have a2 := k_nn k
      have a3 := k_le (k := m) (m := 50) (by omega)
      have a4 := k_nn m
      obtain ⟨q1, q2⟩ := qd_add h1 w1 (by omega) (by omega)
      refine ⟨q1, k + m, ?_, ?_⟩
      · show k + m ≤ 50 * ((gst K U o n i).1 + 1)
        omega
      · show zv (dAdd (gst K U o n i).2 (U (5 * (n - 1 - i) + o))) = _
        rw [q2, e, e2, Int.natCast_add, Int.add_mul]
    · rw [if_neg c]
      exact ⟨h1, k, hk, e⟩
theorem guess_z {K : Nat → Int32} {U : Nat → Dm} {o n : Nat} (ho : o < 5) (h : ∀ j, j < 5 * n → K j ≠ 0 → whl (U j)) : half (guess K U o n) := by
  have hG := G0_pos
  have hU := U0_pos
  have hUG := U0_G0
  obtain ⟨h1, k, hk, e⟩ := gst_z ho h n (Nat.le_refl _)
  have hl := gst_le K U o n n
  unfold guess
  by_cases c : (gst K U o n n).1 = 2
  · rw [if_pos c]
    rw [c] at hk
    have a1 := k_le (k := k) (m := 100) (by omega)
    have a2 := k_nn k
    have ek : (k : Int) * U0 = 2 * ((k : Int) * 34359738368 * G0) := by
      rw [hUG, ← Int.mul_assoc, show (k : Int) * 68719476736 = 2 * ((k : Int) * 34359738368) by omega, Int.mul_assoc 2]
    have ep : 4 * zv (gst K U o n n).2 = (k : Int) * 34359738368 * G0 * 8 := by
      rw [e, ek]
      omega
    obtain ⟨f1, f2, f3⟩ := dDiv_z h1.1 nb_d2 (by omega) (b := 8) (by decide) (by rw [zv_d2]; omega) (by omega)
    have e4 := rq_ex (by decide) f2 ep (by omega) (by omega)
    have e5 : zv (dDiv (gst K U o n n).2 d2) = 2 * (k : Int) * Q0 := by
      rw [e4, k_G0, show 2 * (k : Int) * 17179869184 = (k : Int) * 34359738368 by omega]
    have e6 : 2 * zv (dDiv (gst K U o n n).2 d2) = (k : Int) * U0 := by
      rw [e4, ek]
    exact ⟨⟨f1, _, e5⟩, f3, by omega⟩
  · rw [if_neg c]
    have a1 := k_le (k := k) (m := 50) (by omega)
    have a2 := k_nn k
    exact ⟨h1, by omega, by omega⟩
theorem use0_z {it tu K : Nat → Int32} {U : Nat → Dm} {n : Nat} (h : ∀ j, j < 5 * n → K j ≠ 0 → whl (U j)) (ht : ∀ i, i < 5 → ∃ k : Nat, k ≤ 50 ∧ tu i = nI k) : fine (use0 it tu K U n) ∧ ∀ i, i < 5 → it i ≠ 0 → whl (use0 it tu K U n i) := by
  have key : ∀ i, i < 5 → it i ≠ 0 → whl (use0 it tu K U n i) := by
    intro i hi c
    obtain ⟨k, hk, e⟩ := ht i hi
    refine ⟨k, hk, ?_⟩
    unfold use0
    rw [if_neg c, e]
  refine ⟨fun i hi => ?_, key⟩
  by_cases c : it i = 0
  · have e : use0 it tu K U n i = guess K U i n := by unfold use0; rw [if_pos c]
    rw [e]
    exact guess_z hi h
  · exact whl_half (key i hi c)
/-! shedding -/
def shR (T0 : Nat → Int32) (V0 : Nat → Dm) (T : Nat → Int32) (V : Nat → Dm) : Prop := ∀ o, o < 5 → (T o = T0 o ∧ V o = V0 o) ∨ (T o = T0 o + 1 ∧ V o = dZ ∧ dCmp (V0 o) dZ = some .gt)
theorem shd_R {S T0 : Nat → Int32} {V0 : Nat → Dm} : ∀ (f : Nat) (T : Nat → Int32) (V : Nat → Dm), shR T0 V0 T V → shR T0 V0 (shd S f T V).1 (shd S f T V).2
  | 0, T, V, h => h
  | f + 1, T, V, h => by
    unfold shd
    by_cases c : over V
    · rw [if_pos c]
      cases e : nx S T V 5 with
      | none => exact h
      | some o =>
        dsimp only
        obtain ⟨ho, hm⟩ := nx_lt e
        refine shd_R f _ _ (fun i hi => ?_)
        by_cases ci : i = o
        · subst ci
          right
          rcases h i hi with ⟨a1, a2⟩ | ⟨-, a2, -⟩
          · refine ⟨by unfold upd; rw [if_pos rfl, a1], up_at _ _ _, by rw [← a2]; exact hm.2⟩
          · have := hm.2
            rw [a2] at this
            exact absurd this (by decide +kernel)
        · rw [show upd T o (T o + 1) i = T i by unfold upd; rw [if_neg ci], up_ne _ _ ci]
          exact h i hi
    · rw [if_neg c]; exact h
theorem shR_fine {T0 T : Nat → Int32} {V0 V : Nat → Dm} (h : shR T0 V0 T V) (hf : fine V0) : fine V := by
  intro i hi
  have hU := U0_pos
  rcases h i hi with ⟨-, e⟩ | ⟨-, e, -⟩
  · rw [e]; exact hf i hi
  · rw [e, zv_dZ]; exact ⟨qd_dZ, by omega, by omega⟩
theorem tnx_lt {t : Nat} (ht : t < 5) : ∀ y : Option Nat, tnx t y < 5
  | none => ht
  | some o => Nat.mod_lt _ (by decide)
theorem kB_t {sun : Int32} {sh : Nat → Int32} {V : Nat → Dm} {S : Dm} {G : Nat → Dm} {t n : Nat} (ht : t < 5) : (kB sun sh V S G t n).2.2.2 < 5 := by
  unfold kB gB
  split
  · exact tnx_lt ht _
  · exact ht
theorem gbs_out {t b : Nat} {V : Nat → Dm} {B : Dm} {G : Nat → Dm} {j : Nat} (hj : b + 5 ≤ j) : ∀ k, (gbs t b V B G k).2.2.1 j = G j
  | 0 => rfl
  | k + 1 => by
    show va_up (gbs t b V B G k).2.2.1 (b + (t + k) % 5) _ j = _
    have : (t + k) % 5 < 5 := Nat.mod_lt _ (by decide)
    rw [up_ne _ _ (by omega)]
    exact gbs_out hj k
theorem kB_out {sun : Int32} {sh : Nat → Int32} {V : Nat → Dm} {S : Dm} {G : Nat → Dm} {t n j : Nat} (hj : 5 * n + 5 ≤ j) : (kB sun sh V S G t n).2.2.1 j = G j := by
  unfold kB gB
  split
  · exact gbs_out hj 5
  · rfl
theorem kF_out {sun : Int32} {sh : Nat → Int32} {V : Nat → Dm} {n j : Nat} {F : Nat → Dm} (hj : ¬ (5 * n ≤ j ∧ j < 5 * n + 5)) : kF sun sh V n F j = F j := by
  unfold kF fE
  by_cases c : noNeed (kV2 sun sh V)
  · rw [if_pos c]; unfold fS po; rw [if_neg hj]
  · rw [if_neg c]; unfold po; rw [if_neg hj]; unfold fS po; rw [if_neg hj]
/-- what the law adds up of a closed quarter -/
def restS (sun : Int32) (σ : St) : Nat → Dm
  | 0 => dSub (dSub (dI sun) (s_lz (closeS sun σ) (s_n σ))) (dSub (s_so (closeS sun σ)) (s_so σ))
  | k + 1 => dSub (restS sun σ k) (dAdd (s_lf (closeS sun σ) (5 * s_n σ + k)) (s_lb (closeS sun σ) (5 * s_n σ + k)))
def clF (sun : Int32) (σ : St) : Prop :=
  (∀ o, o < 5 → (s_ts (closeS sun σ) o = s_ts σ o ∧ cV σ o = s_lu (closeS sun σ) (5 * s_n σ + o)) ∨ (s_ts (closeS sun σ) o = s_ts σ o + 1 ∧ cV σ o = dZ ∧ dCmp (s_lu (closeS sun σ) (5 * s_n σ + o)) dZ = some .gt)) ∧
  isNr (restS sun σ 5) dZ ∧
  (∀ o, o < 5 → isNr (cV σ o) (dAdd (dAdd (s_lf (closeS sun σ) (5 * s_n σ + o)) (s_lb (closeS sun σ) (5 * s_n σ + o))) (s_lw (closeS sun σ) (5 * s_n σ + o)))) ∧
  ∀ o, o < 5 → isNr (s_bi (closeS sun σ) o) (dSub (dAdd (s_bi σ o) (dMul (s_lw (closeS sun σ) (5 * s_n σ + o)) (s_pr σ))) (dDiv (dMul (s_lz (closeS sun σ) (s_n σ)) (s_pr σ)) d10))
theorem sub_step {R x y : Dm} (hR : nb R) (hx : nb x) (hy : nb y) (r1 : zv R ≤ 1000 * U0) (r2 : -(1000 * U0) ≤ zv R) (x0 : 0 ≤ zv x) (x1 : zv x ≤ 60 * U0) (y0 : 0 ≤ zv y) (y1 : zv y ≤ 60 * U0) : nb (dSub R (dAdd x y)) ∧ zv (dSub R (dAdd x y)) ≤ zv R - zv x - zv y + 2 * G0 ∧ zv R - zv x - zv y ≤ zv (dSub R (dAdd x y)) + 2 * G0 := by
  have hG := G0_pos
  have hUG := U0_G0
  obtain ⟨a1, a2⟩ := dAdd_z hx hy (by omega) (by omega)
  have A1 := (rq1 a2).1
  have A2 := (rq1 a2).2.1
  obtain ⟨b1, b2⟩ := dSub_z hR a1 (by omega) (by omega)
  have B1 := (rq1 b2).1
  have B2 := (rq1 b2).2.1
  exact ⟨b1, by omega, by omega⟩
set_option maxHeartbeats 1000000 in
theorem close_ok {c : Nat} {σ : St} {s : Nat} (hc : c ≤ 1000) (I : Inv c σ) (hn : s_n σ < 60) (hs : s ≤ 100) : Inv (c + 1) (closeS (nI s) σ) ∧ clF (nI s) σ := by
  have hG := G0_pos
  have hU := U0_pos
  have hUG := U0_G0
  obtain ⟨⟨o1, o2, o3, o4⟩, ⟨hcn, hsh, hsum⟩, htu, hpr, hso, hbi, hq, hsl, hout⟩ := I
  obtain ⟨hu1, hu2⟩ := use0_z (it := s_it σ) (tu := s_tu σ) (K := s_lk σ) (U := s_lu σ) (n := s_n σ) (fun j hj hk => (hsl j hj).2.1 hk) htu
  have hR : shR (s_ts σ) (use0 (s_it σ) (s_tu σ) (s_lk σ) (s_lu σ) (s_n σ)) (cT (s_sw σ) (s_ts σ) (s_it σ) (s_tu σ) (s_lk σ) (s_lu σ) (s_n σ)).1 (cV σ) := shd_R 5 _ _ (fun o ho => Or.inl ⟨rfl, rfl⟩)
  have hV := shR_fine hR hu1
  obtain ⟨z1, z2, z3, z4, z5, z6, z7⟩ := sun_z (F := s_lf σ) (n := s_n σ) hs hsh hsum hV (fun i hi => (hout _ (by omega)).1)
  obtain ⟨t1, t2, t3, t4, t5, t6, t7, t8⟩ := store_z hso.1 hso.2.1 hso.2.2 z3 z4 z5
  obtain ⟨g1, g2, g3, g4, g5⟩ := gB_z (n := s_n σ) (L := kL2 (nI s) (s_sh σ) (cV σ)) (G := s_lb σ) o2 z1 ⟨t1, t2, t3⟩ (fun i hi => (hout _ (by omega)).2)
  -- the names of what comes of it
  have eK : gB (s_t σ) (s_n σ) (kV3 (nI s) (s_sh σ) (cV σ)) (kL2 (nI s) (s_sh σ) (cV σ)) (soN (s_so σ) (kL2 (nI s) (s_sh σ) (cV σ))) (s_lb σ) = cK (nI s) σ := rfl
  rw [eK] at g1 g2 g3 g4 g5
  have eZ : s_lz (closeS (nI s) σ) (s_n σ) = szN (s_so σ) (kL2 (nI s) (s_sh σ) (cV σ)) := up_at _ _ _
  have eS : s_so (closeS (nI s) σ) = (cK (nI s) σ).2.1 := rfl
  have eF : ∀ j, s_lf (closeS (nI s) σ) j = kF (nI s) (s_sh σ) (cV σ) (s_n σ) (s_lf σ) j := fun j => rfl
  have eB : ∀ j, s_lb (closeS (nI s) σ) j = (cK (nI s) σ).2.2.1 j := fun j => rfl
  have eW : ∀ o, o < 5 → s_lw (closeS (nI s) σ) (5 * s_n σ + o) = (cK (nI s) σ).1 o := fun o ho => po_in _ _ ho
  have eU : ∀ o, o < 5 → s_lu (closeS (nI s) σ) (5 * s_n σ + o) = use0 (s_it σ) (s_tu σ) (s_lk σ) (s_lu σ) (s_n σ) o := fun o ho => po_in _ _ ho
  have eD : ∀ o, o < 5 → s_ld (closeS (nI s) σ) (5 * s_n σ + o) = cV σ o := fun o ho => po_in _ _ ho
  have eL : ∀ o, o < 5 → s_lk (closeS (nI s) σ) (5 * s_n σ + o) = s_it σ o := fun o ho => po_in _ _ ho
  have eI : ∀ o, o < 5 → s_bi (closeS (nI s) σ) o = dSub (dAdd (s_bi σ o) (dMul ((cK (nI s) σ).1 o) (s_pr σ))) (dDiv (dMul (szN (s_so σ) (kL2 (nI s) (s_sh σ) (cV σ))) (s_pr σ)) d10) := by
    intro o ho
    have e1 : s_bi (closeS (nI s) σ) (0 + o) = dSub (dAdd (s_bi σ o) (dMul ((cK (nI s) σ).1 o) (s_pr σ))) (dDiv (dMul (s_lz (closeS (nI s) σ) (s_n σ)) (s_pr σ)) d10) := by
      show kI (nI s) (s_sh σ) (cV σ) (s_so σ) (s_lz σ) (s_bi σ) (s_pr σ) (s_lb σ) (s_t σ) (s_n σ) (0 + o) = _
      unfold kI
      exact po_in (b := 0) _ _ ho
    rw [Nat.zero_add, eZ] at e1
    exact e1
  have hbz : ∀ o, o < 5 → nb (s_bi (closeS (nI s) σ) o) ∧ zv (s_bi (closeS (nI s) σ) o) ≤ ((c + 1 : Nat) : Int) * (64 * U0) ∧ -(((c + 1 : Nat) : Int) * (64 * U0)) ≤ zv (s_bi (closeS (nI s) σ) o) := by
    intro o ho
    rw [eI o ho]
    exact bill_z hc (hbi o ho) (g1 o ho) hpr ⟨t4, t5, t6⟩
  have hblk : ∀ j, 5 * s_n σ ≤ j → j < 5 * (s_n σ + 1) → ∃ o, o < 5 ∧ j = 5 * s_n σ + o := fun j h1 h2 => ⟨j - 5 * s_n σ, by omega, by omega⟩
  refine ⟨⟨⟨by show s_n σ + 1 ≤ 60; omega, kB_t o2, o3, fun j => ?_⟩, ⟨hcn, hsh, hsum⟩, htu, hpr, g2, hbz, fun q hq2 => ?_, fun j hj => ?_, fun j hj => ?_⟩, fun o ho => ?_, ?_, fun o ho => ?_, fun o ho => ?_⟩
  · show po 0 5 (s_it σ) (fun _ => 0) j = 0 ∨ po 0 5 (s_it σ) (fun _ => 0) j = 1
    unfold po
    split
    · exact Or.inl rfl
    · exact o4 j
  · have hq2 : q < s_n σ + 1 := hq2
    by_cases e : q = s_n σ
    · subst e
      refine ⟨?_, by rw [eZ]; exact t4⟩
      show prc (va_up (s_lp σ) (s_n σ) (s_pr σ) (s_n σ))
      rw [up_at]; exact hpr
    · obtain ⟨a1, a2⟩ := hq q (by omega)
      refine ⟨?_, ?_⟩
      · show prc (va_up (s_lp σ) (s_n σ) (s_pr σ) q)
        rw [up_ne _ _ e]; exact a1
      · show nb (va_up (s_lz σ) (s_n σ) _ q)
        rw [up_ne _ _ e]; exact a2
  · have hj : j < 5 * (s_n σ + 1) := hj
    by_cases c1 : j < 5 * s_n σ
    · obtain ⟨a1, a2, a3, a4, a5⟩ := hsl j c1
      have b1 : s_lu (closeS (nI s) σ) j = s_lu σ j := po_out _ _ c1
      have b2 : s_lk (closeS (nI s) σ) j = s_lk σ j := po_out _ _ c1
      have b3 : s_ld (closeS (nI s) σ) j = s_ld σ j := po_out _ _ c1
      have b4 : s_lf (closeS (nI s) σ) j = s_lf σ j := kF_out (by omega)
      have b5 : s_lw (closeS (nI s) σ) j = s_lw σ j := po_out _ _ c1
      rw [b1, b2, b3, b4, b5]
      exact ⟨a1, a2, a3, a4, a5⟩
    · obtain ⟨o, ho, rfl⟩ := hblk j (by omega) hj
      rw [eU o ho, eL o ho, eD o ho, eF, eW o ho]
      exact ⟨hu1 o ho, fun h => hu2 o ho h, hV o ho, (z2 o ho).1, (g1 o ho).1⟩
  · have hj : 5 * (s_n σ + 1) ≤ j := hj
    refine ⟨?_, ?_⟩
    · rw [eF, kF_out (by omega)]; exact (hout j (by omega)).1
    · rw [eB, kB_out (by omega)]; exact (hout j (by omega)).2
  · rw [eU o ho]
    rcases hR o ho with ⟨a1, a2⟩ | ⟨a1, a2, a3⟩
    · exact Or.inl ⟨a1, a2⟩
    · exact Or.inr ⟨a1, a2, a3⟩
  · -- nothing rests
    obtain ⟨y1, y2⟩ := qd_nI (k := s) (by omega)
    have sb := k_le (k := s) (m := 100) (by omega)
    have sn := k_nn s
    have hF : ∀ o, o < 5 → nb (s_lf (closeS (nI s) σ) (5 * s_n σ + o)) ∧ 0 ≤ zv (s_lf (closeS (nI s) σ) (5 * s_n σ + o)) ∧ zv (s_lf (closeS (nI s) σ) (5 * s_n σ + o)) ≤ 60 * U0 := by
      intro o ho
      rw [eF]
      obtain ⟨a1, a2, a3, a4⟩ := z2 o ho
      obtain ⟨b1, b2, b3⟩ := z1 o ho
      obtain ⟨c1, c2, c3⟩ := hV o ho
      exact ⟨a1, a2, by omega⟩
    have hB : ∀ o, o < 5 → nb (s_lb (closeS (nI s) σ) (5 * s_n σ + o)) ∧ 0 ≤ zv (s_lb (closeS (nI s) σ) (5 * s_n σ + o)) ∧ zv (s_lb (closeS (nI s) σ) (5 * s_n σ + o)) ≤ 60 * U0 := by
      intro o ho
      rw [eB]
      obtain ⟨a1, a2, a3, -⟩ := g3 o ho
      exact ⟨a1, a2, by omega⟩
    obtain ⟨h1, h2, h3⟩ := hso
    obtain ⟨k1, k2, k3⟩ := g2
    obtain ⟨p1, p2⟩ := dSub_z y1.1 t4 (by omega) (by omega)
    have P1 := (rq1 p2).1
    have P2 := (rq1 p2).2.1
    obtain ⟨q1, q2⟩ := dSub_z k1 h1 (by omega) (by omega)
    have Q1 := (rq1 q2).1
    have Q2 := (rq1 q2).2.1
    obtain ⟨r1, r2⟩ := dSub_z p1 q1 (by omega) (by omega)
    have R1 := (rq1 r2).1
    have R2 := (rq1 r2).2.1
    have e0 : restS (nI s) σ 0 = dSub (dSub (dI (nI s)) (szN (s_so σ) (kL2 (nI s) (s_sh σ) (cV σ)))) (dSub (cK (nI s) σ).2.1 (s_so σ)) := by
      rw [← eZ]; rfl
    rw [← e0] at r1 R1 R2
    have es : ∀ k, restS (nI s) σ (k + 1) = dSub (restS (nI s) σ k) (dAdd (s_lf (closeS (nI s) σ) (5 * s_n σ + k)) (s_lb (closeS (nI s) σ) (5 * s_n σ + k))) := fun k => rfl
    obtain ⟨F0, f0, f0'⟩ := hF 0 (by omega)
    obtain ⟨B0, b0, b0'⟩ := hB 0 (by omega)
    obtain ⟨w0, v0, v0'⟩ := sub_step r1 F0 B0 (by omega) (by omega) f0 f0' b0 b0'
    rw [← es 0] at w0 v0 v0'
    obtain ⟨F1, f1, f1'⟩ := hF 1 (by omega)
    obtain ⟨B1, b1, b1'⟩ := hB 1 (by omega)
    obtain ⟨w1, v1, v1'⟩ := sub_step w0 F1 B1 (by omega) (by omega) f1 f1' b1 b1'
    rw [← es 1] at w1 v1 v1'
    obtain ⟨F2, f2, f2'⟩ := hF 2 (by omega)
    obtain ⟨B2, b2, b2'⟩ := hB 2 (by omega)
    obtain ⟨w2, v2, v2'⟩ := sub_step w1 F2 B2 (by omega) (by omega) f2 f2' b2 b2'
    rw [← es 2] at w2 v2 v2'
    obtain ⟨F3, f3, f3'⟩ := hF 3 (by omega)
    obtain ⟨B3, b3, b3'⟩ := hB 3 (by omega)
    obtain ⟨w3, v3, v3'⟩ := sub_step w2 F3 B3 (by omega) (by omega) f3 f3' b3 b3'
    rw [← es 3] at w3 v3 v3'
    obtain ⟨F4, f4, f4'⟩ := hF 4 (by omega)
    obtain ⟨B4, b4, b4'⟩ := hB 4 (by omega)
    obtain ⟨w4, v4, v4'⟩ := sub_step w3 F4 B4 (by omega) (by omega) f4 f4' b4 b4'
    rw [← es 4] at w4 v4 v4'
    simp only [Nat.zero_add, Nat.reduceAdd] at w4 v4 v4' v3 v3' v2 v2' v1 v1' v0 v0'
    simp only [eF, eB] at v0 v0' v1 v1' v2 v2' v3 v3' v4 v4'
    refine near_z w4 nb_dZ ?_ ?_
    · rw [zv_dZ]; omega
    · rw [zv_dZ]; omega
  · rw [eF, eB, eW o ho]
    obtain ⟨a1, a2, a3, a4⟩ := z2 o ho
    obtain ⟨b1, b2, b3, b4, b5⟩ := g3 o ho
    obtain ⟨c1, c2, c3⟩ := g1 o ho
    obtain ⟨d1, d2, d3⟩ := hV o ho
    obtain ⟨e1, e2, e3⟩ := z1 o ho
    obtain ⟨m1, m2⟩ := dAdd_z a1 b1 (by omega) (by omega)
    have M1 := (rq1 m2).1
    have M2 := (rq1 m2).2.1
    obtain ⟨n1, n2⟩ := dAdd_z m1 c1 (by omega) (by omega)
    have N1 := (rq1 n2).1
    have N2 := (rq1 n2).2.1
    exact near_z d1.1 n1 (by omega) (by omega)
  · have := hbz o ho
    rw [eW o ho, eZ, ← eI o ho]
    exact near_z this.1 this.1 (by omega) (by omega)
