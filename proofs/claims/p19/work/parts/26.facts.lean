/-! WHAT HOLDS BEHIND EACH CALL -/
theorem Inv.mono {c : Nat} {σ : St} (I : Inv c σ) : Inv (c + 1) σ := by
  obtain ⟨h1, h2, h3, h4, h5, h6, h7⟩ := I
  have hU := U0_pos
  have ec : ((c + 1 : Nat) : Int) * (64 * U0) = (c : Int) * (64 * U0) + 64 * U0 := by rw [Int.natCast_add, Int.add_mul]; show _ + 1 * _ = _; rw [Int.one_mul]
  refine ⟨h1, h2, h3, h4, h5, fun i hi => ?_, h7⟩
  obtain ⟨a1, a2, a3⟩ := h6 i hi
  exact ⟨a1, by rw [ec]; omega, by rw [ec]; omega⟩
theorem nb.nn {d : Dm} (h : nb d) : d ≠ .nan := h.2.1
theorem self_eq {d : Dm} (h : d ≠ .nan) : dCmp d d = some .eq := (dCmp_self d).resolve_right h
theorem eD_nn : eD ≠ .nan := by decide +kernel
theorem zv_eD : zv eD = -99999 * U0 := by decide +kernel
theorem ft_eD : ft eD := dt_ft _
theorem ne_eD {d : Dm} (h : nb d) : ¬ dCmp d eD = some .eq := by
  intro z
  have hU := U0_pos
  have hUG := U0_G0
  have e1 : dCmp d eD = some (compare (zv d) (zv eD)) := FP.Core.order_zval gb h.1 ft_eD h.2.1 eD_nn
  rw [e1, Option.some.injEq] at z
  have e2 := Int.compare_eq_eq.mp z
  have e3 := h.2.2.2
  rw [zv_eD] at e2
  omega
theorem dI_eN : dI eN = eD := by decide +kernel
theorem nb_nI {k : Nat} (h : k ≤ 65536) : nb (dI (nI k)) := (qd_nI h).1.1
theorem upd_at (f : Nat → Int32) (k : Nat) (x : Int32) : upd f k x k = x := by unfold upd; rw [if_pos rfl]
theorem upd_ne (f : Nat → Int32) {k j : Nat} (x : Int32) (h : j ≠ k) : upd f k x j = f j := by unfold upd; rw [if_neg h]
theorem upd01 {f : Nat → Int32} {x : Int32} (h : ∀ j, f j = 0 ∨ f j = 1) (hx : x = 0 ∨ x = 1) (o : Nat) : ∀ j, upd f o x j = 0 ∨ upd f o x j = 1 := by
  intro j
  by_cases c : j = o
  · rw [c, upd_at]; exact hx
  · rw [upd_ne _ _ c]; exact h j
theorem bI01 (c : Prop) [Decidable c] : bI c = 0 ∨ bI c = 1 := by
  by_cases h : c
  · exact Or.inr (bI_t h)
  · exact Or.inl (bI_f h)
theorem bI_nI (c : Prop) [Decidable c] : ∃ k : Nat, k ≤ 4 ∧ bI c = nI k := by
  by_cases h : c
  · exact ⟨1, by omega, bI_t h⟩
  · exact ⟨0, by omega, bI_f h⟩
theorem clampN {k : Nat} (h : k ≤ 60000) : (nI k).toNatClampNeg = k := nI_clamp (by omega)
/-- .. each of the calls that answer an int -/
def doneI (c : Nat) (σ : St) (r : St × Int32) : Prop := Inv (c + 1) r.1 ∧ ((r.1 = σ ∧ r.2 = eN) ∨ ∃ k : Nat, k ≤ 4 ∧ r.2 = nI k)
theorem sSh_ok {c : Nat} {σ : St} (I : Inv c σ) (x y : Int32) : doneI c σ (sSh σ x y) := by
  by_cases hg : gSh σ x y
  · obtain ⟨o, ho, rfl⟩ := inR_nI (n := 4) (by decide) hg.1
    obtain ⟨k, hk, rfl⟩ := inR_nI (n := 4) (by decide) hg.2.1
    have hok := (okS_nI (sh := s_sh σ) (share := nI k) (show o < 5 by omega)).mp hg.2.2
    obtain ⟨h1, ⟨hc, hsh, hsum⟩, h3⟩ := I.mono
    have es : sumI (s_sh σ) 5 = nI (hc 0 + hc 1 + hc 2 + hc 3 + hc 4) := by
      show (0 : Int32) + s_sh σ 0 + s_sh σ 1 + s_sh σ 2 + s_sh σ 3 + s_sh σ 4 = _
      rw [(hsh 0 (by omega)).1, (hsh 1 (by omega)).1, (hsh 2 (by omega)).1, (hsh 3 (by omega)).1, (hsh 4 (by omega)).1, show (0 : Int32) = nI 0 from rfl, nI_add, nI_add, nI_add, nI_add, nI_add, Nat.zero_add]
    have hle : hc o ≤ hc 0 + hc 1 + hc 2 + hc 3 + hc 4 := by
      rcases (show o = 0 ∨ o = 1 ∨ o = 2 ∨ o = 3 ∨ o = 4 by omega) with rfl | rfl | rfl | rfl | rfl <;> omega
    rw [es, (hsh o (by omega)).1, pk_sub hle, nI_add] at hok
    have hok2 : hc 0 + hc 1 + hc 2 + hc 3 + hc 4 - hc o + k ≤ 4 := (nI_leI (b := 4) (by omega) (by decide)).mp hok
    have e : sSh σ (nI o) (nI k) = ((upd (s_sh σ) o (nI k), σ.2), s_sh σ o) := by
      unfold sSh
      rw [if_pos hg, clampN (by omega)]
    rw [e]
    refine ⟨⟨h1, ⟨fun i => if i = o then k else hc i, fun i hi => ?_, ?_⟩, h3⟩, Or.inr ⟨hc o, (hsh o (by omega)).2, (hsh o (by omega)).1⟩⟩
    · show upd (s_sh σ) o (nI k) i = _ ∧ _
      by_cases ci : i = o
      · subst ci
        rw [upd_at]
        dsimp only
        rw [if_pos rfl]
        exact ⟨rfl, hk⟩
      · rw [upd_ne _ _ ci]
        dsimp only
        rw [if_neg ci]
        exact hsh i hi
    · rcases (show o = 0 ∨ o = 1 ∨ o = 2 ∨ o = 3 ∨ o = 4 by omega) with rfl | rfl | rfl | rfl | rfl <;> simp <;> omega
  · have e : sSh σ x y = (σ, eN) := by unfold sSh; rw [if_neg hg]
    rw [e]
    exact ⟨I.mono, Or.inl ⟨rfl, rfl⟩⟩
theorem sSw_ok {c : Nat} {σ : St} (I : Inv c σ) (x y : Int32) : doneI c σ (sSw σ x y) := by
  by_cases hg : gSw x
  · have e : sSw σ x y = ((s_sh σ, upd (s_sw σ) x.toNatClampNeg (bI (y = 1)), σ.2.2), bI (s_sw σ x.toNatClampNeg ≠ 0)) := by
      unfold sSw
      rw [if_pos hg]
    rw [e]
    obtain ⟨⟨a1, a2, a3, a4⟩, h2, h3⟩ := I.mono
    exact ⟨⟨⟨a1, a2, upd01 a3 (bI01 _) _, a4⟩, h2, h3⟩, Or.inr (bI_nI _)⟩
  · have e : sSw σ x y = (σ, eN) := by unfold sSw; rw [if_neg hg]
    rw [e]
    exact ⟨I.mono, Or.inl ⟨rfl, rfl⟩⟩
theorem sTl_ok {c : Nat} {σ : St} (I : Inv c σ) (x y : Int32) : doneI c σ (sTl σ x y) := by
  by_cases hg : gTl x y
  · obtain ⟨k, hk, rfl⟩ := inR_nI (n := 50) (by decide) hg.2
    have e : sTl σ x (nI k) = ((s_sh σ, s_sw σ, s_ts σ, upd (s_it σ) x.toNatClampNeg 1, upd (s_tu σ) x.toNatClampNeg (nI k), σ.2.2.2.2.2), bI (s_it σ x.toNatClampNeg ≠ 0)) := by
      unfold sTl
      rw [if_pos hg]
    rw [e]
    obtain ⟨⟨a1, a2, a3, a4⟩, h2, h3, h4⟩ := I.mono
    refine ⟨⟨⟨a1, a2, a3, upd01 a4 (Or.inr rfl) _⟩, h2, fun i hi => ?_, h4⟩, Or.inr (bI_nI _)⟩
    show ∃ k' : Nat, k' ≤ 50 ∧ upd (s_tu σ) x.toNatClampNeg (nI k) i = nI k'
    by_cases ci : i = x.toNatClampNeg
    · rw [ci, upd_at]; exact ⟨k, hk, rfl⟩
    · rw [upd_ne _ _ ci]; exact h3 i hi
  · have e : sTl σ x y = (σ, eN) := by unfold sTl; rw [if_neg hg]
    rw [e]
    exact ⟨I.mono, Or.inl ⟨rfl, rfl⟩⟩
theorem sCl_ok {c : Nat} {σ : St} (hc : c ≤ 1000) (I : Inv c σ) (x : Int32) : doneI c σ (sCl σ x) := by
  by_cases hg : gCl σ x
  · obtain ⟨s, hs, rfl⟩ := inR_nI (n := 100) (by decide) hg.1
    have e : sCl σ (nI s) = (closeS (nI s) σ, bI (over (cV σ))) := by unfold sCl; rw [if_pos hg]
    rw [e]
    exact ⟨(close_ok hc I hg.2 hs).1, Or.inr (bI_nI _)⟩
  · have e : sCl σ x = (σ, eN) := by unfold sCl; rw [if_neg hg]
    rw [e]
    exact ⟨I.mono, Or.inl ⟨rfl, rfl⟩⟩
/-! prices -/
abbrev pB (k : Nat) : UInt64 := FP.ddiv (FP.i2d (nI k)) 4616189618054758400
theorem pB_ok {k : Nat} (h1 : 1 ≤ k) (h2 : k ≤ 4) : prc (dt (pB k)) ∧ dCmp (dMul (dt (pB k)) d4) (dI (nI k)) = some .eq := by
  rcases (show k = 1 ∨ k = 2 ∨ k = 3 ∨ k = 4 by omega) with rfl | rfl | rfl | rfl
  · exact ⟨⟨⟨dt_ft _, by decide +kernel, by decide +kernel, by decide +kernel⟩, 1, by decide, by decide, by decide +kernel⟩, by decide +kernel⟩
  · exact ⟨⟨⟨dt_ft _, by decide +kernel, by decide +kernel, by decide +kernel⟩, 2, by decide, by decide, by decide +kernel⟩, by decide +kernel⟩
  · exact ⟨⟨⟨dt_ft _, by decide +kernel, by decide +kernel, by decide +kernel⟩, 3, by decide, by decide, by decide +kernel⟩, by decide +kernel⟩
  · exact ⟨⟨⟨dt_ft _, by decide +kernel, by decide +kernel, by decide +kernel⟩, 4, by decide, by decide, by decide +kernel⟩, by decide +kernel⟩
/-- the state at another price -/
def prS (P : Dm) (σ : St) : St := (s_sh σ, s_sw σ, s_ts σ, s_it σ, s_tu σ, s_lk σ, s_n σ, s_t σ, P, s_so σ, s_bi σ, s_lp σ, s_lz σ, s_lu σ, s_ld σ, s_lf σ, s_lb σ, s_lw σ)
theorem prS_ok {c : Nat} {σ : St} {P : Dm} (I : Inv c σ) (hP : prc P) : Inv c (prS P σ) := by
  obtain ⟨h1, h2, h3, h4, h5⟩ := I
  exact ⟨h1, h2, h3, hP, h5⟩
/-- .. of the calls that answer a double -/
def doneD (c : Nat) (σ : St) (r : St × Dm) : Prop := Inv (c + 1) r.1 ∧ ((r.1 = σ ∧ r.2 = eD) ∨ nb r.2)
theorem sPr_ok {c : Nat} {σ : St} (I : Inv c σ) (x : Int32) : doneD c σ (sPr σ x) := by
  by_cases hg : gPr x
  · obtain ⟨k, hk, rfl⟩ := inR_nI (n := 4) (by decide) (⟨Int32.le_trans (by decide) hg.1, hg.2⟩ : inR x 0 4)
    have hk1 : 1 ≤ k := (nI_leI (a := 1) (b := k) (by decide) (by omega)).mp hg.1
    have e : sPr σ (nI k) = (prS (dt (pB k)) σ, dt (pB k)) := by unfold sPr; rw [if_pos hg]; rfl
    rw [e]
    obtain ⟨p1, -⟩ := pB_ok hk1 hk
    exact ⟨(prS_ok I p1).mono, Or.inr p1.1⟩
  · have e : sPr σ x = (σ, eD) := by unfold sPr; rw [if_neg hg]
    rw [e]
    exact ⟨I.mono, Or.inl ⟨rfl, rfl⟩⟩
/-! a gap that is replaced -/
abbrev d50 : Dm := dt 4632233691727265792
abbrev dm50 : Dm := dt 13855605728582041600
theorem nb_d50 : nb d50 := ⟨dt_ft _, by decide +kernel, by decide +kernel, by decide +kernel⟩
theorem nb_dm50 : nb dm50 := ⟨dt_ft _, by decide +kernel, by decide +kernel, by decide +kernel⟩
theorem zv_d50 : zv d50 = 50 * U0 := by decide +kernel
theorem zv_dm50 : zv dm50 = -50 * U0 := by decide +kernel
def repF (σ : St) (o j : Nat) (y : Int32) (d : Dm) : Prop := nb d ∧ (dCmp d d50 = some .lt ∨ dCmp d d50 = some .eq) ∧ (dCmp d dm50 = some .gt ∨ dCmp d dm50 = some .eq) ∧ nb (dAdd (s_bi σ o) d) ∧ nb (dI y)
theorem sRe_get {σ : St} {o j : Nat} {y : Int32} (ho : o < 5) (hj : j < 60) (hg : gRe σ (nI o) (nI j) y) : sRe σ (nI o) (nI j) y = ((s_sh σ, s_sw σ, s_ts σ, s_it σ, s_tu σ, upd (s_lk σ) (5 * j + o) 1, s_n σ, s_t σ, s_pr σ, s_so σ, va_up (s_bi σ) o (dAdd (s_bi σ o) (chg σ (nI o) (nI j) y)), s_lp σ, s_lz σ, va_up (s_lu σ) (5 * j + o) (dI y), s_ld σ, s_lf σ, s_lb σ, s_lw σ), chg σ (nI o) (nI j) y) := by
  have e1 : (nI o).toNatClampNeg = o := nI_clamp (by omega)
  have e2 : (nI j).toNatClampNeg = j := nI_clamp (by omega)
  unfold sRe
  rw [if_pos hg, e1, e2]
theorem chg_get {σ : St} {o j : Nat} {y : Int32} (ho : o < 5) (hj : j < 60) : chg σ (nI o) (nI j) y = dMul (dSub (dI y) (s_ld σ (5 * j + o))) (s_lp σ j) := by
  have e1 : (nI o).toNatClampNeg = o := nI_clamp (by omega)
  have e2 : (nI j).toNatClampNeg = j := nI_clamp (by omega)
  unfold chg
  rw [e1, e2]
theorem rep_ok {c : Nat} {σ : St} (hc : c ≤ 1000) (I : Inv c σ) {o j k : Nat} (ho : o < 5) (hj : j < s_n σ) (hk : k ≤ 50) : repF σ o j (nI k) (chg σ (nI o) (nI j) (nI k)) ∧ zv (chg σ (nI o) (nI j) (nI k)) ≤ 50 * U0 ∧ -(50 * U0) ≤ zv (chg σ (nI o) (nI j) (nI k)) := by
  have hU := U0_pos
  have hG := G0_pos
  have hUG := U0_G0
  obtain ⟨h1, h2, h3, h4, h5, hbi, hq, hsl, h9⟩ := I
  have hn := h1.1
  rw [chg_get ho (by omega)]
  obtain ⟨-, -, ⟨q1, q2, q3⟩, -⟩ := hsl (5 * j + o) (by omega)
  obtain ⟨hp, -⟩ := hq j hj
  obtain ⟨y1, y2⟩ := qd_nI (k := k) (by omega)
  have kb := k_le (k := k) (m := 50) (by omega)
  have kn := k_nn k
  obtain ⟨s1, s2⟩ := qd_sub y1 q1 (by omega) (by omega)
  obtain ⟨m1, m2, m3, -⟩ := by_price hp s1.1 (j := 50) (by decide) (by decide) (by omega) (by omega)
  obtain ⟨b1, b2, b3⟩ := hbi o ho
  have bc : (c : Int) * (64 * U0) ≤ 1000 * (64 * U0) := Int.mul_le_mul_of_nonneg_right (by omega) (by omega)
  obtain ⟨a1, -⟩ := dAdd_z b1 m1 (by omega) (by omega)
  refine ⟨⟨m1, ?_, ?_, a1, y1.1⟩, m2, m3⟩
  · rcases Int.lt_or_eq_of_le m2 with g | g
    · exact Or.inl ((dCmp_lt m1 nb_d50).mpr (by rw [zv_d50]; exact g))
    · exact Or.inr ((dCmp_eq m1 nb_d50).mpr (by rw [zv_d50]; exact g))
  · rcases Int.lt_or_eq_of_le m3 with g | g
    · exact Or.inl ((dCmp_gt m1 nb_dm50).mpr (by rw [zv_dm50]; omega))
    · exact Or.inr ((dCmp_eq m1 nb_dm50).mpr (by rw [zv_dm50]; omega))
theorem sRe_ok {c : Nat} {σ : St} (hc : c ≤ 1000) (I : Inv c σ) (x q y : Int32) : doneD c σ (sRe σ x q y) := by
  by_cases hg : gRe σ x q y
  · obtain ⟨o, ho, rfl⟩ := inR_nI (n := 4) (by decide) hg.1
    obtain ⟨k, hk, rfl⟩ := inR_nI (n := 50) (by decide) hg.2.1
    have hn := I.1.1
    obtain ⟨j, hj, rfl⟩ := isQ_nI (by omega) hg.2.2.1
    obtain ⟨⟨r1, r2, r3, r4, r5⟩, r6, r7⟩ := rep_ok hc I (show o < 5 by omega) hj hk
    rw [sRe_get (by omega) (by omega) hg]
    have hU := U0_pos
    have hG := G0_pos
    have hUG := U0_G0
    have ec : ((c + 1 : Nat) : Int) * (64 * U0) = (c : Int) * (64 * U0) + 64 * U0 := by rw [Int.natCast_add, Int.add_mul]; show _ + 1 * _ = _; rw [Int.one_mul]
    obtain ⟨h1, h2, h3, h4, h5, hbi, hq, hsl, h9⟩ := I.mono
    obtain ⟨-, -, -, -, -, hbi0, -, -, -⟩ := I
    refine ⟨⟨h1, h2, h3, h4, h5, fun i hi => ?_, hq, fun i hi => ?_, h9⟩, Or.inr r1⟩
    · show nb (va_up (s_bi σ) o (dAdd (s_bi σ o) (chg σ (nI o) (nI j) (nI k))) i) ∧ zv (va_up (s_bi σ) o (dAdd (s_bi σ o) (chg σ (nI o) (nI j) (nI k))) i) ≤ _ ∧ _ ≤ zv (va_up (s_bi σ) o (dAdd (s_bi σ o) (chg σ (nI o) (nI j) (nI k))) i)
      by_cases ci : i = o
      · subst ci
        rw [up_at]
        obtain ⟨b1, b2, b3⟩ := hbi0 i hi
        have bc : (c : Int) * (64 * U0) ≤ 1000 * (64 * U0) := Int.mul_le_mul_of_nonneg_right (by omega) (by omega)
        obtain ⟨a1, a2⟩ := dAdd_z b1 r1 (by omega) (by omega)
        have A1 := (rq1 a2).1
        have A2 := (rq1 a2).2.1
        exact ⟨a1, by rw [ec]; omega, by rw [ec]; omega⟩
      · rw [up_ne _ _ ci]; exact hbi i hi
    · show half (va_up (s_lu σ) (5 * j + o) (dI (nI k)) i) ∧ (upd (s_lk σ) (5 * j + o) 1 i ≠ 0 → whl (va_up (s_lu σ) (5 * j + o) (dI (nI k)) i)) ∧ _
      obtain ⟨a1, a2, a3⟩ := hsl i hi
      by_cases ci : i = 5 * j + o
      · rw [ci, up_at]
        exact ⟨whl_half ⟨k, hk, rfl⟩, fun _ => ⟨k, hk, rfl⟩, ci ▸ a3⟩
      · rw [up_ne _ _ ci, upd_ne _ _ ci]
        exact ⟨a1, a2, a3⟩
  · have e : sRe σ x q y = (σ, eD) := by unfold sRe; rw [if_neg hg]
    rw [e]
    exact ⟨I.mono, Or.inl ⟨rfl, rfl⟩⟩
/-! what happens by a cell -/
theorem dd_ok {c : Nat} {σ : St} {r : St × Int32} (h : doneI c σ r) : doneD c σ (dd r) := by
  obtain ⟨h1, ⟨h2, h3⟩ | ⟨k, hk, h3⟩⟩ := h
  · exact ⟨h1, Or.inl ⟨h2, by show dI r.2 = eD; rw [h3]; exact dI_eN⟩⟩
  · exact ⟨h1, Or.inr (by show nb (dI r.2); rw [h3]; exact nb_nI (by omega))⟩
theorem act_ok {c : Nat} {σ : St} (hc : c ≤ 1000) (I : Inv c σ) (v : Int32) : doneD c σ (actS v σ) := by
  unfold actS
  split
  · split
    · exact dd_ok (sSh_ok I _ _)
    · exact dd_ok (sSw_ok I _ _)
  · split
    · exact dd_ok (sTl_ok I _ _)
    · split
      · split
        · exact sRe_ok hc I _ _ _
        · exact sPr_ok I _
      · exact dd_ok (sCl_ok hc I _)
/-! two objects that are alike -/
def Alk (σ : St) (q : Int32) : Prop := s_so σ ≠ .nan ∧ rdZ σ q ≠ .nan ∧ ∀ o, o < 5 → s_bi σ o ≠ .nan ∧ rd (s_lu σ) σ (nI o) q ≠ .nan ∧ rd (s_lf σ) σ (nI o) q ≠ .nan ∧ rd (s_lw σ) σ (nI o) q ≠ .nan
theorem rd_nn {F : Nat → Dm} {σ : St} {o : Nat} (ho : o < 5) (hn : s_n σ ≤ 60) (h : ∀ j, j < 5 * s_n σ → nb (F j)) (q : Int32) : rd F σ (nI o) q ≠ .nan := by
  unfold rd
  by_cases hg : gRd σ (nI o) q
  · obtain ⟨j, hj, rfl⟩ := isQ_nI (by omega) hg.2
    rw [if_pos hg, clampN (by omega), clampN (by omega)]
    exact (h _ (by omega)).nn
  · rw [if_neg hg]; exact eD_nn
theorem alk_ok {c : Nat} {σ : St} (I : Inv c σ) (q : Int32) : Alk σ q := by
  obtain ⟨h1, h2, h3, h4, h5, hbi, hq, hsl, h9⟩ := I
  have hn := h1.1
  refine ⟨h5.1.nn, ?_, fun o ho => ⟨(hbi o ho).1.nn, rd_nn ho hn (fun j hj => (hsl j hj).1.1.1) q, rd_nn ho hn (fun j hj => (hsl j hj).2.2.2.1) q, rd_nn ho hn (fun j hj => (hsl j hj).2.2.2.2) q⟩⟩
  unfold rdZ
  by_cases hg : isQ (s_n σ) q
  · obtain ⟨j, hj, rfl⟩ := isQ_nI (by omega) hg
    rw [if_pos hg, clampN (by omega)]
    exact (hq j hj).2.nn
  · rw [if_neg hg]; exact eD_nn
