/-! THE STATE OF AN OBJECT: its bits (Bt), its data (St), and what each call does to the data -/
abbrev Bt : Type := (Nat → Int32) × (Nat → Int32) × (Nat → Int32) × (Nat → UInt64) × (Nat → Int32) × (Nat → Int32) × (Nat → UInt64) × (UInt64) × (UInt64) × (UInt64) × (Nat) × (Nat) × (Nat → UInt64) × (Nat → UInt64) × (Nat → UInt64) × (Nat → Int32) × (Nat → UInt64) × (Nat → UInt64) × (Nat → UInt64) × (Nat → UInt64)
abbrev St : Type := (Nat → Int32) × (Nat → Int32) × (Nat → Int32) × (Nat → Int32) × (Nat → Int32) × (Nat → Int32) × (Nat) × (Nat) × (Dm) × (Dm) × (Nat → Dm) × (Nat → Dm) × (Nat → Dm) × (Nat → Dm) × (Nat → Dm) × (Nat → Dm) × (Nat → Dm) × (Nat → Dm)
abbrev b_sh (u : Bt) : Nat → Int32 := u.1
abbrev b_sw (u : Bt) : Nat → Int32 := u.2.1
abbrev b_ts (u : Bt) : Nat → Int32 := u.2.2.1
abbrev b_bi (u : Bt) : Nat → UInt64 := u.2.2.2.1
abbrev b_it (u : Bt) : Nat → Int32 := u.2.2.2.2.1
abbrev b_tu (u : Bt) : Nat → Int32 := u.2.2.2.2.2.1
abbrev b_ne (u : Bt) : Nat → UInt64 := u.2.2.2.2.2.2.1
abbrev b_pr (u : Bt) : UInt64 := u.2.2.2.2.2.2.2.1
abbrev b_so (u : Bt) : UInt64 := u.2.2.2.2.2.2.2.2.1
abbrev b_lo (u : Bt) : UInt64 := u.2.2.2.2.2.2.2.2.2.1
abbrev b_t (u : Bt) : Nat := u.2.2.2.2.2.2.2.2.2.2.1
abbrev b_n (u : Bt) : Nat := u.2.2.2.2.2.2.2.2.2.2.2.1
abbrev b_lp (u : Bt) : Nat → UInt64 := u.2.2.2.2.2.2.2.2.2.2.2.2.1
abbrev b_lz (u : Bt) : Nat → UInt64 := u.2.2.2.2.2.2.2.2.2.2.2.2.2.1
abbrev b_lu (u : Bt) : Nat → UInt64 := u.2.2.2.2.2.2.2.2.2.2.2.2.2.2.1
abbrev b_lk (u : Bt) : Nat → Int32 := u.2.2.2.2.2.2.2.2.2.2.2.2.2.2.2.1
abbrev b_ld (u : Bt) : Nat → UInt64 := u.2.2.2.2.2.2.2.2.2.2.2.2.2.2.2.2.1
abbrev b_lf (u : Bt) : Nat → UInt64 := u.2.2.2.2.2.2.2.2.2.2.2.2.2.2.2.2.2.1
abbrev b_lb (u : Bt) : Nat → UInt64 := u.2.2.2.2.2.2.2.2.2.2.2.2.2.2.2.2.2.2.1
abbrev b_lw (u : Bt) : Nat → UInt64 := u.2.2.2.2.2.2.2.2.2.2.2.2.2.2.2.2.2.2.2
abbrev s_sh (σ : St) : Nat → Int32 := σ.1
abbrev s_sw (σ : St) : Nat → Int32 := σ.2.1
abbrev s_ts (σ : St) : Nat → Int32 := σ.2.2.1
abbrev s_it (σ : St) : Nat → Int32 := σ.2.2.2.1
abbrev s_tu (σ : St) : Nat → Int32 := σ.2.2.2.2.1
abbrev s_lk (σ : St) : Nat → Int32 := σ.2.2.2.2.2.1
abbrev s_n (σ : St) : Nat := σ.2.2.2.2.2.2.1
abbrev s_t (σ : St) : Nat := σ.2.2.2.2.2.2.2.1
abbrev s_pr (σ : St) : Dm := σ.2.2.2.2.2.2.2.2.1
abbrev s_so (σ : St) : Dm := σ.2.2.2.2.2.2.2.2.2.1
abbrev s_bi (σ : St) : Nat → Dm := σ.2.2.2.2.2.2.2.2.2.2.1
abbrev s_lp (σ : St) : Nat → Dm := σ.2.2.2.2.2.2.2.2.2.2.2.1
abbrev s_lz (σ : St) : Nat → Dm := σ.2.2.2.2.2.2.2.2.2.2.2.2.1
abbrev s_lu (σ : St) : Nat → Dm := σ.2.2.2.2.2.2.2.2.2.2.2.2.2.1
abbrev s_ld (σ : St) : Nat → Dm := σ.2.2.2.2.2.2.2.2.2.2.2.2.2.2.1
abbrev s_lf (σ : St) : Nat → Dm := σ.2.2.2.2.2.2.2.2.2.2.2.2.2.2.2.1
abbrev s_lb (σ : St) : Nat → Dm := σ.2.2.2.2.2.2.2.2.2.2.2.2.2.2.2.2.1
abbrev s_lw (σ : St) : Nat → Dm := σ.2.2.2.2.2.2.2.2.2.2.2.2.2.2.2.2.2
def dat (u : Bt) : St := (u.1, u.2.1, u.2.2.1, u.2.2.2.2.1, u.2.2.2.2.2.1, u.2.2.2.2.2.2.2.2.2.2.2.2.2.2.2.1, u.2.2.2.2.2.2.2.2.2.2.2.1, u.2.2.2.2.2.2.2.2.2.2.1, dt u.2.2.2.2.2.2.2.1, dt u.2.2.2.2.2.2.2.2.1, dts u.2.2.2.1, dts u.2.2.2.2.2.2.2.2.2.2.2.2.1, dts u.2.2.2.2.2.2.2.2.2.2.2.2.2.1, dts u.2.2.2.2.2.2.2.2.2.2.2.2.2.2.1, dts u.2.2.2.2.2.2.2.2.2.2.2.2.2.2.2.2.1, dts u.2.2.2.2.2.2.2.2.2.2.2.2.2.2.2.2.2.1, dts u.2.2.2.2.2.2.2.2.2.2.2.2.2.2.2.2.2.2.1, dts u.2.2.2.2.2.2.2.2.2.2.2.2.2.2.2.2.2.2.2)
abbrev XU (a : Nat → Nat) (cI cZ cD : ClassId) (u : Bt) : va_W := XW a cI cZ cD u.1 u.2.1 u.2.2.1 u.2.2.2.1 u.2.2.2.2.1 u.2.2.2.2.2.1 u.2.2.2.2.2.2.1 u.2.2.2.2.2.2.2.1 u.2.2.2.2.2.2.2.2.1 u.2.2.2.2.2.2.2.2.2.1 (nI u.2.2.2.2.2.2.2.2.2.2.1) (nI u.2.2.2.2.2.2.2.2.2.2.2.1) u.2.2.2.2.2.2.2.2.2.2.2.2.1 u.2.2.2.2.2.2.2.2.2.2.2.2.2.1 u.2.2.2.2.2.2.2.2.2.2.2.2.2.2.1 u.2.2.2.2.2.2.2.2.2.2.2.2.2.2.2.1 u.2.2.2.2.2.2.2.2.2.2.2.2.2.2.2.2.1 u.2.2.2.2.2.2.2.2.2.2.2.2.2.2.2.2.2.1 u.2.2.2.2.2.2.2.2.2.2.2.2.2.2.2.2.2.2.1 u.2.2.2.2.2.2.2.2.2.2.2.2.2.2.2.2.2.2.2
/-- an exception, as the law has it -/
abbrev eN : Int32 := -99999
abbrev eD : Dm := dt 13904980329019473920
/-- what the owners are held to use, behind the shedding -/
abbrev cV (σ : St) : Nat → Dm := (cT (s_sw σ) (s_ts σ) (s_it σ) (s_tu σ) (s_lk σ) (s_lu σ) (s_n σ)).2
abbrev cK (sun : Int32) (σ : St) : (Nat → Dm) × Dm × (Nat → Dm) × Nat := kB sun (s_sh σ) (cV σ) (s_so σ) (s_lb σ) (s_t σ) (s_n σ)
def closeS (sun : Int32) (σ : St) : St := (σ.1, σ.2.1, (cT (s_sw σ) (s_ts σ) (s_it σ) (s_tu σ) (s_lk σ) (s_lu σ) (s_n σ)).1, po 0 5 (s_it σ) (fun _ => 0), σ.2.2.2.2.1, po (5 * s_n σ) 5 (s_lk σ) (s_it σ), s_n σ + 1, (cK sun σ).2.2.2, σ.2.2.2.2.2.2.2.2.1, (cK sun σ).2.1, kI sun (s_sh σ) (cV σ) (s_so σ) (s_lz σ) (s_bi σ) (s_pr σ) (s_lb σ) (s_t σ) (s_n σ), va_up (s_lp σ) (s_n σ) (s_pr σ), kZ sun (s_sh σ) (cV σ) (s_so σ) (s_lz σ) (s_n σ), po (5 * s_n σ) 5 (s_lu σ) (use0 (s_it σ) (s_tu σ) (s_lk σ) (s_lu σ) (s_n σ)), po (5 * s_n σ) 5 (s_ld σ) (cV σ), kF sun (s_sh σ) (cV σ) (s_n σ) (s_lf σ), (cK sun σ).2.2.1, po (5 * s_n σ) 5 (s_lw σ) (cK sun σ).1)
def gSh (σ : St) (x y : Int32) : Prop := inR x 0 4 ∧ inR y 0 4 ∧ okS (s_sh σ) x y
def gSw (x : Int32) : Prop := inR x 0 4
def gTl (x y : Int32) : Prop := inR x 0 4 ∧ inR y 0 50
def gCl (σ : St) (x : Int32) : Prop := inR x 0 100 ∧ s_n σ < 60
def gPr (x : Int32) : Prop := inR x 1 4
def gRe (σ : St) (x q y : Int32) : Prop := inR x 0 4 ∧ inR y 0 50 ∧ isQ (s_n σ) q ∧ ¬ kn (s_lk σ) x q
def gRd (σ : St) (x q : Int32) : Prop := inR x 0 4 ∧ isQ (s_n σ) q
noncomputable def sSh (σ : St) (x y : Int32) : St × Int32 := @ite _ (gSh σ x y) (Classical.propDecidable _) ((upd (s_sh σ) x.toNatClampNeg y, σ.2.1, σ.2.2.1, σ.2.2.2.1, σ.2.2.2.2.1, σ.2.2.2.2.2.1, σ.2.2.2.2.2.2.1, σ.2.2.2.2.2.2.2.1, σ.2.2.2.2.2.2.2.2.1, σ.2.2.2.2.2.2.2.2.2.1, σ.2.2.2.2.2.2.2.2.2.2.1, σ.2.2.2.2.2.2.2.2.2.2.2.1, σ.2.2.2.2.2.2.2.2.2.2.2.2.1, σ.2.2.2.2.2.2.2.2.2.2.2.2.2.1, σ.2.2.2.2.2.2.2.2.2.2.2.2.2.2.1, σ.2.2.2.2.2.2.2.2.2.2.2.2.2.2.2.1, σ.2.2.2.2.2.2.2.2.2.2.2.2.2.2.2.2.1, σ.2.2.2.2.2.2.2.2.2.2.2.2.2.2.2.2.2), s_sh σ x.toNatClampNeg) (σ, eN)
noncomputable def sSw (σ : St) (x y : Int32) : St × Int32 := @ite _ (gSw x) (Classical.propDecidable _) ((σ.1, upd (s_sw σ) x.toNatClampNeg (bI (y = 1)), σ.2.2.1, σ.2.2.2.1, σ.2.2.2.2.1, σ.2.2.2.2.2.1, σ.2.2.2.2.2.2.1, σ.2.2.2.2.2.2.2.1, σ.2.2.2.2.2.2.2.2.1, σ.2.2.2.2.2.2.2.2.2.1, σ.2.2.2.2.2.2.2.2.2.2.1, σ.2.2.2.2.2.2.2.2.2.2.2.1, σ.2.2.2.2.2.2.2.2.2.2.2.2.1, σ.2.2.2.2.2.2.2.2.2.2.2.2.2.1, σ.2.2.2.2.2.2.2.2.2.2.2.2.2.2.1, σ.2.2.2.2.2.2.2.2.2.2.2.2.2.2.2.1, σ.2.2.2.2.2.2.2.2.2.2.2.2.2.2.2.2.1, σ.2.2.2.2.2.2.2.2.2.2.2.2.2.2.2.2.2), bI (s_sw σ x.toNatClampNeg ≠ 0)) (σ, eN)
noncomputable def sTl (σ : St) (x y : Int32) : St × Int32 := @ite _ (gTl x y) (Classical.propDecidable _) ((σ.1, σ.2.1, σ.2.2.1, upd (s_it σ) x.toNatClampNeg 1, upd (s_tu σ) x.toNatClampNeg y, σ.2.2.2.2.2.1, σ.2.2.2.2.2.2.1, σ.2.2.2.2.2.2.2.1, σ.2.2.2.2.2.2.2.2.1, σ.2.2.2.2.2.2.2.2.2.1, σ.2.2.2.2.2.2.2.2.2.2.1, σ.2.2.2.2.2.2.2.2.2.2.2.1, σ.2.2.2.2.2.2.2.2.2.2.2.2.1, σ.2.2.2.2.2.2.2.2.2.2.2.2.2.1, σ.2.2.2.2.2.2.2.2.2.2.2.2.2.2.1, σ.2.2.2.2.2.2.2.2.2.2.2.2.2.2.2.1, σ.2.2.2.2.2.2.2.2.2.2.2.2.2.2.2.2.1, σ.2.2.2.2.2.2.2.2.2.2.2.2.2.2.2.2.2), bI (s_it σ x.toNatClampNeg ≠ 0)) (σ, eN)
noncomputable def sCl (σ : St) (x : Int32) : St × Int32 := @ite _ (gCl σ x) (Classical.propDecidable _) (closeS x σ, bI (over (cV σ))) (σ, eN)
noncomputable def sPr (σ : St) (x : Int32) : St × Dm := @ite _ (gPr x) (Classical.propDecidable _) ((σ.1, σ.2.1, σ.2.2.1, σ.2.2.2.1, σ.2.2.2.2.1, σ.2.2.2.2.2.1, σ.2.2.2.2.2.2.1, σ.2.2.2.2.2.2.2.1, dt (FP.ddiv (FP.i2d x) 4616189618054758400), σ.2.2.2.2.2.2.2.2.2.1, σ.2.2.2.2.2.2.2.2.2.2.1, σ.2.2.2.2.2.2.2.2.2.2.2.1, σ.2.2.2.2.2.2.2.2.2.2.2.2.1, σ.2.2.2.2.2.2.2.2.2.2.2.2.2.1, σ.2.2.2.2.2.2.2.2.2.2.2.2.2.2.1, σ.2.2.2.2.2.2.2.2.2.2.2.2.2.2.2.1, σ.2.2.2.2.2.2.2.2.2.2.2.2.2.2.2.2.1, σ.2.2.2.2.2.2.2.2.2.2.2.2.2.2.2.2.2), dt (FP.ddiv (FP.i2d x) 4616189618054758400)) (σ, eD)
def chg (σ : St) (x q y : Int32) : Dm := dMul (dSub (dI y) (s_ld σ (5 * q.toNatClampNeg + x.toNatClampNeg))) (s_lp σ q.toNatClampNeg)
noncomputable def sRe (σ : St) (x q y : Int32) : St × Dm := @ite _ (gRe σ x q y) (Classical.propDecidable _) ((σ.1, σ.2.1, σ.2.2.1, σ.2.2.2.1, σ.2.2.2.2.1, upd (s_lk σ) (5 * q.toNatClampNeg + x.toNatClampNeg) 1, σ.2.2.2.2.2.2.1, σ.2.2.2.2.2.2.2.1, σ.2.2.2.2.2.2.2.2.1, σ.2.2.2.2.2.2.2.2.2.1, va_up (s_bi σ) x.toNatClampNeg (dAdd (s_bi σ x.toNatClampNeg) (chg σ x q y)), σ.2.2.2.2.2.2.2.2.2.2.2.1, σ.2.2.2.2.2.2.2.2.2.2.2.2.1, va_up (s_lu σ) (5 * q.toNatClampNeg + x.toNatClampNeg) (dI y), σ.2.2.2.2.2.2.2.2.2.2.2.2.2.2.1, σ.2.2.2.2.2.2.2.2.2.2.2.2.2.2.2.1, σ.2.2.2.2.2.2.2.2.2.2.2.2.2.2.2.2.1, σ.2.2.2.2.2.2.2.2.2.2.2.2.2.2.2.2.2), chg σ x q y) (σ, eD)
noncomputable def rd (F : Nat → Dm) (σ : St) (x q : Int32) : Dm := @ite _ (gRd σ x q) (Classical.propDecidable _) (F (5 * q.toNatClampNeg + x.toNatClampNeg)) eD
noncomputable def rdZ (σ : St) (q : Int32) : Dm := @ite _ (isQ (s_n σ) q) (Classical.propDecidable _) (s_lz σ q.toNatClampNeg) eD
/-- what the methods ask of a state -/
def Ok (σ : St) : Prop := s_n σ ≤ 60 ∧ s_t σ < 5 ∧ (∀ j, s_sw σ j = 0 ∨ s_sw σ j = 1) ∧ (∀ j, s_it σ j = 0 ∨ s_it σ j = 1)
