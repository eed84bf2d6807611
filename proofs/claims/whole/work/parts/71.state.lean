/-! ===== the abstract state; both sides' cells hold it ===== -/
/-- an argument as a place below n -/
def ix_ (n : Nat) (x : Int32) : Option Nat := if x < 0 then none else if nI n ≤ x then none else some x.toNatClampNeg
theorem ix_some {n l : Nat} {x : Int32} (hn : n < 2 ^ 31) (h : ix_ n x = some l) : l < n ∧ x = nI l := by
  unfold ix_ at h
  split at h
  · cases h
  · rename_i h0
    split at h
    · cases h
    · rename_i h1
      cases h
      obtain ⟨j, hj, rfl⟩ := nI_of h0
      rw [nI_clamp hj]
      exact ⟨(nI_ltI hj hn).mp (Int32.not_le.mp h1), rfl⟩
theorem ix_at {n l : Nat} (h : l < n) (hn : n < 2 ^ 31) : ix_ n (nI l) = some l := by
  unfold ix_
  rw [if_neg (nI_pos (by omega)), if_neg (nI_ge h hn), nI_clamp (by omega)]
def iz_ : Option Nat → Int32
  | none => 0
  | some _ => 1
theorem iz_ix {n : Nat} {x : Int32} : iz_ (ix_ n x) = if x < 0 then 0 else if nI n ≤ x then 0 else 1 := by
  unfold ix_
  split
  · rfl
  · split
    · rfl
    · rfl
theorem ix_none {n : Nat} {x : Int32} (h : ix_ n x = none) : x < 0 ∨ nI n ≤ x := by
  unfold ix_ at h
  split at h
  · rename_i h0; exact Or.inl h0
  · split at h
    · rename_i h1; exact Or.inr h1
    · cases h
theorem bx_ (x : Int32) : f_Sc_isBend x = iz_ (ix_ 6 x) := by rw [iz_ix]; rfl
theorem kx_ (x : Int32) : f_Sc_isKind x = iz_ (ix_ 6 x) := by rw [iz_ix]; rfl
theorem sx_ (x : Int32) : f_Sc_isSheet x = iz_ (ix_ 4 x) := by rw [iz_ix]; rfl
theorem ox_ (x : Int32) : f_Sc_isSort x = iz_ (ix_ 3 x) := by rw [iz_ix]; rfl
theorem gt_ge {n : Nat} (hn : n + 1 < 2 ^ 31) (x : Int32) : nI n < x ↔ nI (n + 1) ≤ x := by
  rw [Int32.lt_iff_toInt_lt, Int32.le_iff_toInt_le, nI_toInt (by omega), nI_toInt hn]
  omega
theorem nx_n (x : Int32) : f_Sc_isNumber x = iz_ (ix_ 10 x) := by
  rw [iz_ix]
  unfold f_Sc_isNumber
  by_cases h0 : x < 0
  · rw [if_pos h0, if_pos h0]
  · rw [if_neg h0, if_neg h0]
    by_cases h1 : (9 : Int32) < x
    · rw [if_pos h1, if_pos ((gt_ge (n := 9) (by decide) x).mp h1)]
    · rw [if_neg h1, if_neg (fun h => h1 ((gt_ge (n := 9) (by decide) x).mpr h))]
theorem wx_ (x : Int32) : f_Sc_isWater x = iz_ (ix_ 11 x) := by
  rw [iz_ix]
  unfold f_Sc_isWater
  by_cases h0 : x < 0
  · rw [if_pos h0, if_pos h0]
  · rw [if_neg h0, if_neg h0]
    by_cases h1 : (10 : Int32) < x
    · rw [if_pos h1, if_pos ((gt_ge (n := 10) (by decide) x).mp h1)]
    · rw [if_neg h1, if_neg (fun h => h1 ((gt_ge (n := 10) (by decide) x).mpr h))]
theorem rx_ (x : Int32) : f_Sc_isRaft x = iz_ (ix_ 2 x) := by
  rw [iz_ix]
  unfold f_Sc_isRaft
  have h2 : (nI 2).toInt = 2 := rfl
  have h0' : (0 : Int32).toInt = 0 := rfl
  have h1' : (1 : Int32).toInt = 1 := rfl
  simp only [← Int32.toInt_inj, Int32.lt_iff_toInt_lt, Int32.le_iff_toInt_le, h2, h0', h1']
  by_cases e0 : x.toInt = 0
  · rw [if_pos e0, if_neg (by omega), if_neg (by omega)]
  · rw [if_neg e0]
    by_cases e1 : x.toInt = 1
    · rw [if_pos e1, if_neg (by omega), if_neg (by omega)]
    · rw [if_neg e1]
      by_cases e2 : x.toInt < 0
      · rw [if_pos e2]
      · rw [if_neg e2, if_pos (by omega)]
theorem lx_ {g : Nat → Nat → Int32} {a : Nat} (h : g 2 0 = nI a) (x : Int32) : f_Sc_isLesson g x = iz_ (ix_ a x) := by rw [iz_ix]; unfold f_Sc_isLesson; rw [h]
theorem cx_ {g : Nat → Nat → Int32} {a : Nat} (h : g 2 1 = nI a) (x : Int32) : f_Sc_isChild g x = iz_ (ix_ a x) := by rw [iz_ix]; unfold f_Sc_isChild; rw [h]
/-- the model's in, from 0 -/
theorem in_ix {n : Nat} (hn : n < 2 ^ 31) (x : Int32) : f_Mo_in x.toInt64 (0 : Int32).toInt64 (nI n - 1).toInt64 = iz_ (ix_ n x) := by
  rw [in_ok, iz_ix]
  have h1 : (nI n - 1).toInt = (n : Int) - 1 := by
    have e1 : (1 : Int32).toInt = 1 := rfl
    rw [Int32.toInt_sub, nI_toInt hn, e1, Int.bmod_eq_of_le] <;> omega
  have h0 : (0 : Int32).toInt = 0 := rfl
  simp only [Int32.lt_iff_toInt_lt, Int32.le_iff_toInt_le, h1, h0, nI_toInt hn]
  by_cases e0 : x.toInt < 0
  · rw [if_pos e0, if_neg (by omega)]
  · rw [if_neg e0]
    by_cases e1 : (n : Int) ≤ x.toInt
    · rw [if_pos e1, if_neg (by omega)]
    · rw [if_neg e1, if_pos (by omega)]
theorem i0_ : (0 : Int64) = (0 : Int32).toInt64 := by decide
theorem in_6 (x : Int32) : f_Mo_in x.toInt64 0 5 = iz_ (ix_ 6 x) := by rw [i0_, show (5 : Int64) = (nI 6 - 1).toInt64 by decide]; exact in_ix (by decide) x
theorem in_2 (x : Int32) : f_Mo_in x.toInt64 0 1 = iz_ (ix_ 2 x) := by rw [i0_, show (1 : Int64) = (nI 2 - 1).toInt64 by decide]; exact in_ix (by decide) x
theorem in_3 (x : Int32) : f_Mo_in x.toInt64 0 2 = iz_ (ix_ 3 x) := by rw [i0_, show (2 : Int64) = (nI 3 - 1).toInt64 by decide]; exact in_ix (by decide) x
theorem in_4 (x : Int32) : f_Mo_in x.toInt64 0 3 = iz_ (ix_ 4 x) := by rw [i0_, show (3 : Int64) = (nI 4 - 1).toInt64 by decide]; exact in_ix (by decide) x
theorem in_5 (x : Int32) : f_Mo_in x.toInt64 0 4 = iz_ (ix_ 5 x) := by rw [i0_, show (4 : Int64) = (nI 5 - 1).toInt64 by decide]; exact in_ix (by decide) x
theorem in_7 (x : Int32) : f_Mo_in x.toInt64 0 6 = iz_ (ix_ 7 x) := by rw [i0_, show (6 : Int64) = (nI 7 - 1).toInt64 by decide]; exact in_ix (by decide) x
theorem in_8 (x : Int32) : f_Mo_in x.toInt64 0 7 = iz_ (ix_ 8 x) := by rw [i0_, show (7 : Int64) = (nI 8 - 1).toInt64 by decide]; exact in_ix (by decide) x
theorem in_10 (x : Int32) : f_Mo_in x.toInt64 0 9 = iz_ (ix_ 10 x) := by rw [i0_, show (9 : Int64) = (nI 10 - 1).toInt64 by decide]; exact in_ix (by decide) x
theorem in_11 (x : Int32) : f_Mo_in x.toInt64 0 10 = iz_ (ix_ 11 x) := by rw [i0_, show (10 : Int64) = (nI 11 - 1).toInt64 by decide]; exact in_ix (by decide) x
theorem in_100 (x : Int32) : f_Mo_in x.toInt64 0 99 = iz_ (ix_ 100 x) := by rw [i0_, show (99 : Int64) = (nI 100 - 1).toInt64 by decide]; exact in_ix (by decide) x
theorem in_256 (x : Int32) : f_Mo_in x.toInt64 0 255 = iz_ (ix_ 256 x) := by rw [i0_, show (255 : Int64) = (nI 256 - 1).toInt64 by decide]; exact in_ix (by decide) x
theorem ml_x {g : Nat → Nat → Int32} {a : Nat} (ha : a < 2 ^ 31) (h : g 52 10 = nI a) (x : Int32) : f_Mo_isLesson g x = iz_ (ix_ a x) := by unfold f_Mo_isLesson; rw [h, i0_]; exact in_ix ha x
theorem mc_x {g : Nat → Nat → Int32} {a : Nat} (ha : a < 2 ^ 31) (h : g 52 14 = nI a) (x : Int32) : f_Mo_isChild g x = iz_ (ix_ a x) := by unfold f_Mo_isChild; rw [h, i0_]; exact in_ix ha x
theorem ms_x (x : Int32) : f_Mo_isSheet x = iz_ (ix_ 4 x) := by unfold f_Mo_isSheet; exact in_4 x
/-- lessons; children; the plans; texts: how many, their signs, the one in force; the tape; sheets; the image -/
abbrev sP : Type := (Nat → Option Nat) × (Nat → Option Nat)
abbrev sX : Type := Nat × (Nat → Nat → List Int32) × Nat
abbrev sS : Type := Nat → Option (Nat × Nat × (Nat → Int32))
abbrev sI : Type := Option (sp_T × sp_K × sP × Nat)
abbrev sA : Type := sp_T × sp_K × sP × sX × (Nat × (Nat → Int32)) × sS × sI
def pr_ (T : sp_T) (p : sP) : Prop := ∀ b l, b < 6 → (p.1 b = some l ∨ p.2 b = some l) → l < T.1
/-- the program's cells -/
def cP (P : Nat → Nat → Int32) (p : sP) : Prop := ∀ b, b < 6 → P 9 b = pl_c (p.1 b) ∧ P 10 b = pl_c (p.2 b)
def cX (dy : List mm_Sh) (P : Nat → Nat → Int32) (x : sX) : Prop := P 1 2 = nI x.1 ∧ x.1 ≤ 6 ∧ P 2 2 = nI x.2.2 ∧ x.2.2 < x.1 ∧ ∀ t, t < x.1 → ∃ c, P 11 t = nI (c + 1) ∧ c + 1 < 2 ^ 31 ∧ ∃ a0 a1 a2 : Nat, (hp_SH ++ dy)[c]? = some (.inr (10, [a0 + 3, a1 + 3, a2 + 3])) ∧ (∀ a, a = a0 ∨ a = a1 ∨ a = a2 → (15 < a ∧ a < 19) ∨ 76 < a) ∧ rt_A dy P a0 (x.2.1 t 0) ∧ rt_A dy P a1 (x.2.1 t 1) ∧ rt_A dy P a2 (x.2.1 t 2)
def cB (P : Nat → Nat → Int32) (b : Nat × (Nat → Int32)) : Prop := P 31 1 = nI b.1 ∧ b.1 ≤ 160 ∧ ∀ j, j < b.1 → P 32 j = b.2 j
def cS (P : Nat → Nat → Int32) (s : sS) : Prop := ∀ k, k < 4 → P 45 k = nI (46 + k + 1) ∧ match s k with
  | none => P 51 k = -1
  | some q => P 51 k = nI q.1 ∧ q.1 < 3 ∧ P 50 k = nI q.2.1 ∧ q.2.1 ≤ 40 ∧ ∀ i, i < q.2.1 → P (46 + k) i = q.2.2 i
def cI (P : Nat → Nat → Int32) (T : sp_T) (tc : Nat) : sI → Prop
  | none => P 0 4 = 0
  | some q => P 0 4 = 1 ∧ P 34 0 = nI q.1.1 ∧ P 34 1 = nI q.2.1.1 ∧ P 34 2 = nI q.2.2.2 ∧ (∀ l, l < q.1.1 → P 35 l = nI (q.1.2.1 l) ∧ P 36 l = nI (q.1.2.2.1 l) ∧ P 37 l = nI (q.1.2.2.2 l)) ∧ (∀ c, c < q.2.1.1 → P 38 c = nI (q.2.1.2.1 c) ∧ P 39 c = nI (q.2.1.2.2.1 c) ∧ P 40 c = nI (q.2.1.2.2.2 c)) ∧ ∀ b, b < 6 → P 41 b = pl_c (q.2.2.1.1 b) ∧ P 42 b = pl_c (q.2.2.1.2 b)
/-- what an image is -/
def iK (T : sp_T) (tc : Nat) : sI → Prop
  | none => True
  | some q => q.1.1 ≤ T.1 ∧ (∀ l, l < q.1.1 → q.1.2.1 l = T.2.1 l ∧ q.1.2.1 l < 6 ∧ q.1.2.2.1 l ≤ 9 ∧ q.1.2.2.2 l < 2 ^ l) ∧ q.2.1.1 ≤ 6 ∧ (∀ c, c < q.2.1.1 → q.2.1.2.1 c ≤ q.2.1.2.2.1 c ∧ q.2.1.2.2.1 c ≤ 5) ∧ pr_ q.1 q.2.2.1 ∧ q.2.2.2 < tc
def cF (P : Nat → Nat → Int32) (T : sp_T) (C : Nat → List Int32) (K : sp_K) : Prop := P 25 2 = 0 ∨ (P 25 2 = 1 ∧ P 25 1 = nI (bw_ T C K) ∧ ∀ b, b < 6 → P 26 b = pl_c (dec_ (T.1 + 1) (bc_ T C K) b))
def CI (dy : List mm_Sh) (P : Nat → Nat → Int32) (A : sA) : Prop := rl_L A.1 P ∧ rl_C A.2.1 P ∧ cP P A.2.2.1 ∧ cX dy P A.2.2.2.1 ∧ cB P A.2.2.2.2.1 ∧ cS P A.2.2.2.2.2.1 ∧ cI P A.1 A.2.2.2.1.1 A.2.2.2.2.2.2 ∧ cF P A.1 (A.2.2.2.1.2.1 A.2.2.2.1.2.2) A.2.1 ∧ mm_wf (hp_SH ++ dy, P, (fun _ _ => 0, 0, fun _ => 0))
/-- what holds of the state itself -/
def SI (A : sA) : Prop := pr_ A.1 A.2.2.1 ∧ iK A.1 A.2.2.2.1.1 A.2.2.2.2.2.2
/-- the model's cells -/
def dP (P : Nat → Nat → Int32) (p : sP) : Prop := ∀ b, b < 6 → P 62 b = pl_c (p.1 b) ∧ P 62 (6 + b) = pl_c (p.2 b)
def dX (P : Nat → Nat → Int32) (x : sX) : Prop := P 52 3 = nI x.1 ∧ x.1 ≤ 6 ∧ P 52 4 = nI x.2.2 ∧ x.2.2 < x.1 ∧ ∀ t, t < x.1 → ∃ (n F : Nat) (B : Nat → Int32), P 54 t = nI n ∧ n ≤ 160 ∧ (∀ i, i < n → P 53 (160 * t + i) = B i ∧ 0 ≤ B i) ∧ tx_ B n F = some (.inl (x.2.1 t 0, x.2.1 t 1, x.2.1 t 2))
def dB (P : Nat → Nat → Int32) (b : Nat × (Nat → Int32)) : Prop := P 52 6 = nI b.1 ∧ b.1 ≤ 160 ∧ ∀ j, j < b.1 → P 55 j = b.2 j ∧ 0 ≤ b.2 j
def dS (P : Nat → Nat → Int32) (s : sS) : Prop := ∀ k, k < 4 → match s k with
  | none => P 73 k = 0
  | some q => P 73 k = 1 ∧ P 74 k = nI q.1 ∧ q.1 < 3 ∧ P 75 k = nI q.2.1 ∧ q.2.1 ≤ 40 ∧ ∀ i, i < q.2.1 → P 76 (40 * k + i) = q.2.2 i
def dI (P : Nat → Nat → Int32) : sI → Prop
  | none => P 52 42 = -1
  | some q => P 52 42 = nI q.1.1 ∧ P 52 43 = nI q.2.1.1 ∧ P 52 44 = nI q.2.2.2 ∧ (∀ l, l < q.1.1 → P 72 (30 + l) = nI (q.1.2.2.1 l) ∧ P 72 (34 + l) = nI (q.1.2.2.2 l)) ∧ (∀ c, c < q.2.1.1 → P 72 (12 + c) = nI (q.2.1.2.1 c) ∧ P 72 (18 + c) = nI (q.2.1.2.2.1 c) ∧ P 72 (24 + c) = nI (q.2.1.2.2.2 c)) ∧ ∀ b, b < 6 → P 72 b = pl_c (q.2.2.1.1 b) ∧ P 72 (6 + b) = pl_c (q.2.2.1.2 b)
def MI (P : Nat → Nat → Int32) (A : sA) : Prop := rl_LM A.1 P ∧ rl_CM A.2.1 P ∧ dP P A.2.2.1 ∧ dX P A.2.2.2.1 ∧ dB P A.2.2.2.2.1 ∧ dS P A.2.2.2.2.2.1 ∧ dI P A.2.2.2.2.2.2
/-- the program's scratch, the model's scratch -/
def cz_ (k j : Nat) : Bool := nr_s k j && Nat.blt k 52
def dz_ (k j : Nat) : Bool := nr_s k j && (Nat.ble 52 k && Nat.ble k 76)
theorem cz_of {s : Nat → Nat → Bool} (h1 : ∀ k j, nr_s k j = false → s k j = false) (h2 : ∀ k j, 52 ≤ k → s k j = false) : ∀ k j, cz_ k j = false → s k j = false := by
  intro k j h
  rcases Bool.and_eq_false_iff.mp h with h | h
  · exact h1 k j h
  · refine h2 k j ?_
    rcases Nat.lt_or_ge k 52 with h3 | h3
    · rw [Nat.blt_eq.mpr h3] at h; cases h
    · exact h3
theorem dz_of {s : Nat → Nat → Bool} (h1 : ∀ k j, nr_s k j = false → s k j = false) (h2 : ∀ k j, (k < 52 ∨ 76 < k) → s k j = false) : ∀ k j, dz_ k j = false → s k j = false := by
  intro k j h
  rcases Bool.and_eq_false_iff.mp h with h | h
  · exact h1 k j h
  · refine h2 k j ?_
    rcases Bool.and_eq_false_iff.mp h with h | h
    · left
      rcases Nat.lt_or_ge k 52 with h3 | h3
      · exact h3
      · rw [Nat.ble_eq_true_of_le h3] at h; cases h
    · right
      rcases Nat.lt_or_ge 76 k with h3 | h3
      · exact h3
      · rw [Nat.ble_eq_true_of_le h3] at h; cases h
theorem cz_nr : ∀ k j, nr_s k j = false → cz_ k j = false := fun k j h => by unfold cz_; rw [h]; rfl
theorem dz_nr : ∀ k j, nr_s k j = false → dz_ k j = false := fun k j h => by unfold dz_; rw [h]; rfl
/-- a call of the program: its answer, and the state behind it -/
def RC (dy : List mm_Sh) (g : Nat → Nat → Int32) (r : (Nat → Nat → Int64) × Nat × (Nat → Int32)) (A : sA) (x : Value) : Option Value → mm_Hp → Prop := fun v h' => v = some x ∧ ∃ dy' g' r', h' = (hp_SH ++ (dy ++ dy'), g', r') ∧ r'.2 = r.2 ∧ dy'.length ≤ 4 ∧ CI (dy ++ dy') (nr_ g') A ∧ ∀ k j, 52 ≤ k → k ≤ 76 → g' k j = g k j
/-- a call of the model -/
def RM (dy : List mm_Sh) (g : Nat → Nat → Int32) (r : (Nat → Nat → Int64) × Nat × (Nat → Int32)) (A : sA) (x : Value) : Option Value → mm_Hp → Prop := fun v h' => v = some x ∧ ∃ g' r', h' = (hp_SH ++ dy, g', r') ∧ r'.2 = r.2 ∧ MI (nr_ g') A ∧ ∀ k j, (k < 52 ∨ 76 < k) → g' k j = g k j
theorem RC_g {dy : List mm_Sh} {g g' : Nat → Nat → Int32} {r r' : (Nat → Nat → Int64) × Nat × (Nat → Int32)} {A : sA} {x : Value} (hr : r'.2 = r.2) (hI : CI dy (nr_ g') A) (hf : ∀ k j, 52 ≤ k → k ≤ 76 → g' k j = g k j) : RC dy g r A x (some x) (hp_SH ++ dy, g', r') := ⟨rfl, [], g', r', by rw [List.append_nil], hr, Nat.zero_le _, by rw [List.append_nil]; exact hI, hf⟩
theorem RC_q {dy : List mm_Sh} {g g' : Nat → Nat → Int32} {r r' : (Nat → Nat → Int64) × Nat × (Nat → Int32)} {A : sA} {x : Value} (hr : r'.2 = r.2) (hI : CI dy (nr_ g) A) (hF : fr_ cz_ g g') : RC dy g r A x (some x) (hp_SH ++ dy, g', r') := by
  refine RC_g hr ?_ (fun k j h1 _ => hF k j ?_)
  · rw [show nr_ g' = nr_ g from hF.nr cz_nr rfl]; exact hI
  · unfold cz_
    have : Nat.blt k 52 = false := by
      cases h : Nat.blt k 52 with
      | false => rfl
      | true => have := Nat.blt_eq.mp h; omega
    rw [this, Bool.and_false]
theorem RM_g {dy : List mm_Sh} {g g' : Nat → Nat → Int32} {r r' : (Nat → Nat → Int64) × Nat × (Nat → Int32)} {A : sA} {x : Value} (hr : r'.2 = r.2) (hI : MI (nr_ g') A) (hf : ∀ k j, (k < 52 ∨ 76 < k) → g' k j = g k j) : RM dy g r A x (some x) (hp_SH ++ dy, g', r') := ⟨rfl, g', r', rfl, hr, hI, hf⟩
theorem RM_q {dy : List mm_Sh} {g g' : Nat → Nat → Int32} {r r' : (Nat → Nat → Int64) × Nat × (Nat → Int32)} {A : sA} {x : Value} (hr : r'.2 = r.2) (hI : MI (nr_ g) A) (hF : fr_ dz_ g g') : RM dy g r A x (some x) (hp_SH ++ dy, g', r') := by
  refine RM_g hr ?_ (fun k j h1 => hF k j ?_)
  · rw [show nr_ g' = nr_ g from hF.nr dz_nr rfl]; exact hI
  · unfold dz_
    have : (Nat.ble 52 k && Nat.ble k 76) = false := by
      rcases h1 with h1 | h1
      · cases h : Nat.ble 52 k with
        | false => rfl
        | true => have := Nat.le_of_ble_eq_true h; omega
      · cases h : Nat.ble k 76 with
        | false => rw [Bool.and_false]
        | true => have := Nat.le_of_ble_eq_true h; omega
    rw [this, Bool.and_false]
/-- the rule in force -/
theorem cX_R {dy : List mm_Sh} {P : Nat → Nat → Int32} {x : sX} (h : cX dy P x) : rt_R dy P (x.2.1 x.2.2) := by
  obtain ⟨h1, h2, h3, h4, h5⟩ := h
  obtain ⟨c, c1, c2, a0, a1, a2, c3, -, c4, c5, c6⟩ := h5 x.2.2 h4
  exact ⟨x.2.2, c, h3, by omega, c1, c2, a0, a1, a2, c3, c4, c5, c6⟩
theorem dX_R {P : Nat → Nat → Int32} {x : sX} (h : dX P x) : rt_M P (x.2.1 x.2.2) := by
  obtain ⟨h1, h2, h3, h4, h5⟩ := h
  obtain ⟨n, F, B, c1, c2, c3, c4⟩ := h5 x.2.2 h4
  exact ⟨x.2.2, n, F, B, h3, by omega, c1, c2, c3, c4⟩
theorem CI_SB {dy : List mm_Sh} {P : Nat → Nat → Int32} {A : sA} (h : CI dy P A) : SB_ dy P A.1 (A.2.2.2.1.2.1 A.2.2.2.1.2.2) A.2.1 := by
  intro P' hP
  obtain ⟨⟨l1, l2, l3, l4⟩, ⟨k1, k2, k3⟩, -, ⟨x1, x2, x3, x4, x5⟩, -⟩ := h
  refine ⟨⟨by rw [hP 2 0 (by decide) (by decide)]; exact l1, l2, fun l hl => ?_, fun j hj => by rw [hP 12 j (by decide) (by decide)]; exact l4 j hj⟩, ?_, ⟨by rw [hP 2 1 (by decide) (by decide)]; exact k1, k2, fun c hc => ?_⟩⟩
  · rw [hP 3 l (by decide) (by decide), hP 4 l (by decide) (by decide), hP 5 l (by decide) (by decide)]
    exact l3 l hl
  · obtain ⟨c, c1, c2, a0, a1, a2, c3, ca, ⟨d1, d2, d3, d4⟩, ⟨e1, e2, e3, e4⟩, ⟨f1, f2, f3, f4⟩⟩ := x5 A.2.2.2.1.2.2 x4
    have hne : ∀ a, a = a0 ∨ a = a1 ∨ a = a2 → a ≠ 25 ∧ a ≠ 26 := fun a ha => by have := ca a ha; omega
    have h0 := hne a0 (Or.inl rfl)
    have h1 := hne a1 (Or.inr (Or.inl rfl))
    have h2 := hne a2 (Or.inr (Or.inr rfl))
    exact ⟨A.2.2.2.1.2.2, c, by rw [hP 2 2 (by decide) (by decide)]; exact x3, by omega, by rw [hP 11 _ (by decide) (by decide)]; exact c1, c2, a0, a1, a2, c3, ⟨d1, d2, d3, fun i hi => by rw [hP a0 i h0.1 h0.2]; exact d4 i hi⟩, ⟨e1, e2, e3, fun i hi => by rw [hP a1 i h1.1 h1.2]; exact e4 i hi⟩, ⟨f1, f2, f3, fun i hi => by rw [hP a2 i h2.1 h2.2]; exact f4 i hi⟩⟩
  · rw [hP 6 c (by decide) (by decide), hP 7 c (by decide) (by decide), hP 8 c (by decide) (by decide)]
    exact k3 c hc

