/-! WHAT THE METHODS WORK OUT, over data -/
abbrev d2 : Dm := dt 4611686018427387904
abbrev d4 : Dm := dt 4616189618054758400
abbrev d10 : Dm := dt 4621819117588971520
abbrev d40 : Dm := dt 4630826316843712512
abbrev d100 : Dm := dt 4636737291354636288
def sumD (V : Nat → Dm) : Nat → Dm
  | 0 => dZ
  | k + 1 => dAdd (sumD V k) (V k)
theorem sumD_c {V U : Nat → Dm} : ∀ {k : Nat}, (∀ j, j < k → V j = U j) → sumD V k = sumD U k
  | 0, _ => rfl
  | k + 1, h => by
    show dAdd (sumD V k) (V k) = dAdd (sumD U k) (U k)
    rw [sumD_c (k := k) (fun j hj => h j (by omega)), h k (by omega)]
def sumI (f : Nat → Int32) : Nat → Int32
  | 0 => 0
  | k + 1 => sumI f k + f k
/-- i quarters back from n on: how many are known (at most two), and their sum -/
def gst (K : Nat → Int32) (U : Nat → Dm) (o n : Nat) : Nat → Nat × Dm
  | 0 => (0, dZ)
  | i + 1 => if (gst K U o n i).1 < 2 ∧ ¬ K (5 * (n - 1 - i) + o) = 0 then ((gst K U o n i).1 + 1, dAdd (gst K U o n i).2 (U (5 * (n - 1 - i) + o))) else gst K U o n i
def guess (K : Nat → Int32) (U : Nat → Dm) (o n : Nat) : Dm := if (gst K U o n n).1 = 2 then dDiv (gst K U o n n).2 d2 else (gst K U o n n).2
theorem gst_le (K : Nat → Int32) (U : Nat → Dm) (o n : Nat) : ∀ i, (gst K U o n i).1 ≤ 2
  | 0 => Nat.zero_le _
  | i + 1 => by
    have h := gst_le K U o n i
    unfold gst
    by_cases c : (gst K U o n i).1 < 2 ∧ ¬ K (5 * (n - 1 - i) + o) = 0
    · rw [if_pos c]
      show (gst K U o n i).1 + 1 ≤ 2
      omega
    · rw [if_neg c]; exact h
theorem gst_stop {K : Nat → Int32} {U : Nat → Dm} {o n i : Nat} (h : ¬ (gst K U o n i).1 < 2) : ∀ k, gst K U o n (i + k) = gst K U o n i
  | 0 => rfl
  | k + 1 => by
    have e := gst_stop h k
    show (if (gst K U o n (i + k)).1 < 2 ∧ ¬ K (5 * (n - 1 - (i + k)) + o) = 0 then _ else gst K U o n (i + k)) = _
    rw [e, if_neg (fun q => h q.1)]
theorem gst_c {K K' : Nat → Int32} {U U' : Nat → Dm} {o n : Nat} (ho : o < 5) (hK : ∀ j, j < 5 * n → K j = K' j) (hU : ∀ j, j < 5 * n → U j = U' j) : ∀ i, i ≤ n → gst K U o n i = gst K' U' o n i
  | 0, _ => rfl
  | i + 1, hi => by
    have e := gst_c ho hK hU i (by omega)
    have hb : 5 * (n - 1 - i) + o < 5 * n := by omega
    show (if _ then _ else _) = (if _ then _ else _)
    rw [e, hK _ hb, hU _ hb]
theorem guess_c {K K' : Nat → Int32} {U U' : Nat → Dm} {o n : Nat} (ho : o < 5) (hK : ∀ j, j < 5 * n → K j = K' j) (hU : ∀ j, j < 5 * n → U j = U' j) : guess K U o n = guess K' U' o n := by
  unfold guess
  rw [gst_c ho hK hU n (Nat.le_refl n)]
/-- what an owner uses at first -/
def use0 (it tu : Nat → Int32) (K : Nat → Int32) (U : Nat → Dm) (n : Nat) : Nat → Dm := fun o => if it o = 0 then guess K U o n else dI (tu o)
def oi : Option Nat → Int32
  | none => -1
  | some k => nI k
abbrev may (S : Nat → Int32) (V : Nat → Dm) (k : Nat) : Prop := ¬ S k = 0 ∧ dCmp (V k) dZ = some .gt
/-- who is shed next, among the first k -/
def nx (S T : Nat → Int32) (V : Nat → Dm) : Nat → Option Nat
  | 0 => none
  | k + 1 => match nx S T V k with
    | none => if may S V k then some k else none
    | some j => if may S V k ∧ T k < T j then some k else some j
theorem nx_lt {S T : Nat → Int32} {V : Nat → Dm} : ∀ {k o : Nat}, nx S T V k = some o → o < k ∧ may S V o
  | 0, o, h => by cases h
  | k + 1, o, h => by
    unfold nx at h
    cases e : nx S T V k with
    | none =>
      rw [e] at h
      dsimp only at h
      by_cases c : may S V k
      · rw [if_pos c] at h; cases h; exact ⟨by omega, c⟩
      · rw [if_neg c] at h; cases h
    | some j =>
      rw [e] at h
      dsimp only at h
      by_cases c : may S V k ∧ T k < T j
      · rw [if_pos c] at h; cases h; exact ⟨by omega, c.1⟩
      · rw [if_neg c] at h
        cases h
        have := nx_lt e
        exact ⟨by omega, this.2⟩
theorem nx_none {S T : Nat → Int32} {V : Nat → Dm} : ∀ {k : Nat}, (∀ o, o < k → ¬ may S V o) → nx S T V k = none
  | 0, _ => rfl
  | k + 1, h => by
    unfold nx
    rw [nx_none (fun o ho => h o (by omega))]
    dsimp only
    rw [if_neg (h k (by omega))]
theorem nx_c {S T : Nat → Int32} {V U : Nat → Dm} : ∀ {k : Nat}, (∀ j, j < k → V j = U j) → nx S T V k = nx S T U k
  | 0, _ => rfl
  | k + 1, h => by
    unfold nx
    rw [nx_c (k := k) (fun j hj => h j (by omega))]
    have e : may S V k ↔ may S U k := by
      unfold may
      rw [h k (by omega)]
    cases nx S T U k with
    | none => dsimp only; simp only [e]
    | some j => dsimp only; simp only [e]
abbrev over (V : Nat → Dm) : Prop := dCmp (sumD V 5) d100 = some .gt
/-- shedding, f times at most -/
def shd (S : Nat → Int32) : Nat → (Nat → Int32) → (Nat → Dm) → (Nat → Int32) × (Nat → Dm)
  | 0, T, V => (T, V)
  | f + 1, T, V => if over V then (match nx S T V 5 with
    | none => (T, V)
    | some o => shd S f (upd T o (T o + 1)) (va_up V o dZ)) else (T, V)
theorem shd_done {S T : Nat → Int32} {V : Nat → Dm} (h : ¬ over V ∨ nx S T V 5 = none) : ∀ f, shd S f T V = (T, V)
  | 0 => rfl
  | f + 1 => by
    unfold shd
    by_cases c : over V
    · rw [if_pos c]
      rcases h with h | h
      · exact absurd c h
      · rw [h]
    · rw [if_neg c]
theorem shd_go {S T : Nat → Int32} {V : Nat → Dm} {o : Nat} (h1 : over V) (h2 : nx S T V 5 = some o) (f : Nat) : shd S (f + 1) T V = shd S f (upd T o (T o + 1)) (va_up V o dZ) := by
  show (if over V then _ else _) = _
  rw [if_pos h1, h2]
/-- the sun by shares -/
def uS (sun : Int32) (sh : Nat → Int32) (V : Nat → Dm) (i : Nat) : Dm := dMin (dDiv (dMul (dI sun) (dI (sh i))) d4) (V i)
def lS (sun : Int32) (sh : Nat → Int32) (V : Nat → Dm) (L : Dm) : Nat → Dm
  | 0 => L
  | k + 1 => dSub (lS sun sh V L k) (uS sun sh V k)
/-- .. by needs -/
abbrev enough (V : Nat → Dm) (L : Dm) : Prop := dCmp (sumD V 5) L = some .lt ∨ dCmp (sumD V 5) L = some .eq
def gE (V : Nat → Dm) (L : Dm) (i : Nat) : Dm := if enough V L then V i else dDiv (dMul L (V i)) (sumD V 5)
abbrev noNeed (V : Nat → Dm) : Prop := dCmp (sumD V 5) dZ = some .eq
def lE (V : Nat → Dm) (L : Dm) : Dm := if noNeed V then L else if enough V L then dSub L (sumD V 5) else dZ
def nE (V : Nat → Dm) (L : Dm) (i : Nat) : Dm := if noNeed V then V i else dSub (V i) (gE V L i)
/-- the battery's turns: needs, what it holds, what it gave, who got last -/
def gbs (t b : Nat) (V : Nat → Dm) (B : Dm) (G : Nat → Dm) : Nat → (Nat → Dm) × Dm × (Nat → Dm) × Option Nat
  | 0 => (V, B, G, none)
  | k + 1 =>
    let r := gbs t b V B G k
    let o := (t + k) % 5
    let u := dMin (r.1 o) r.2.1
    (va_up r.1 o (dSub (r.1 o) u), dSub r.2.1 u, va_up r.2.2.1 (b + o) u, if dCmp u dZ = some .gt then some o else r.2.2.2)
def tnx (t : Nat) : Option Nat → Nat
  | none => t
  | some o => (o + 1) % 5
