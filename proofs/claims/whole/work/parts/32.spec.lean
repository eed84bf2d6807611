/-! ===== scratch cells; the abstract state and what is said of it ===== -/
/-- places whose values last no longer than a call -/
def nr_s (k j : Nat) : Bool := match k with
  | 13 => true
  | 14 => true
  | 27 => true
  | 28 => true
  | 29 => true
  | 30 => true
  | 31 => Nat.ble 2 j
  | 33 => true
  | 43 => true
  | 44 => true
  | 52 => (Nat.ble 16 j && Nat.ble j 30) || j == 39 || j == 0
  | 63 => true
  | 64 => true
  | 65 => true
  | 66 => true
  | 67 => true
  | 68 => true
  | 69 => true
  | 70 => true
  | 71 => true
  | _ => false
def nr_ (g : Nat → Nat → Int32) : Nat → Nat → Int32 := fun k j => bif nr_s k j then 0 else g k j
theorem nr_at {g P : Nat → Nat → Int32} (hP : nr_ g = P) (k j : Nat) (hs : nr_s k j = false) : g k j = P k j := by
  rw [← hP]
  simp [nr_, hs]
theorem nr_up {g P : Nat → Nat → Int32} (hP : nr_ g = P) {k j : Nat} (v : Int32) (hs : nr_s k j = true) : nr_ (mm_up g k j v) = P := by
  rw [← hP]
  funext a b
  by_cases h : a = k ∧ b = j
  · obtain ⟨rfl, rfl⟩ := h
    simp [nr_, hs]
  · have : (a == k && b == j) = false := by
      cases h1 : (a == k && b == j) with
      | false => rfl
      | true => simp at h1; exact absurd h1 h
    simp [nr_, mm_up, this]
theorem nr_put {g P : Nat → Nat → Int32} (hP : nr_ g = P) {k j : Nat} (v : Int32) (hs : nr_s k j = false) : nr_ (mm_up g k j v) = mm_up P k j v := by
  rw [← hP]
  funext a b
  by_cases h : a = k ∧ b = j
  · obtain ⟨rfl, rfl⟩ := h
    simp [nr_, hs, mm_up]
  · have : (a == k && b == j) = false := by
      cases h1 : (a == k && b == j) with
      | false => rfl
      | true => simp at h1; exact absurd h1 h
    simp [nr_, mm_up, this]
/-- lessons: how many, kinds, numbers, needs -/
abbrev sp_T : Type := Nat × (Nat → Nat) × (Nat → Nat) × (Nat → Nat)
/-- by kind and number -/
def sp_kp (k n d : Nat) : Bool := match k with
  | 2 => decide (d ≤ n)
  | 3 => decide (d ≤ 4)
  | 4 => decide (d ≤ n) || decide (d % 2 = 0)
  | _ => true
def sp_tm (k n : Nat) : Nat := match k with
  | 1 => 1 + n % 3
  | 3 => 2 + n % 3
  | 4 => 1 + n % 2
  | 5 => 1 + n % 3
  | _ => 1
def sp_vl (k n : Nat) : Nat := match k with
  | 0 => 10 + n
  | 1 => 2 * (10 + n)
  | 2 => 5 + n
  | 3 => 2 * (10 + n) + n
  | 4 => (5 + n) / 2
  | _ => 2 * (10 + n) + 7
def sp_keeps (T : sp_T) (l d : Nat) : Bool := sp_kp (T.2.1 l) (T.2.2.1 l) d
def sp_times (T : sp_T) (l : Nat) : Nat := sp_tm (T.2.1 l) (T.2.2.1 l)
def sp_value (T : sp_T) (l : Nat) : Nat := sp_vl (T.2.1 l) (T.2.2.1 l)
/-- what a child carries: how often it heard each lesson; the bend of the latest understanding, and 1 (0: none) -/
abbrev sp_C : Type := (Nat → Nat) × (Nat → Nat)
def sp_hs (T : sp_T) (t : Nat → Nat) (b l : Nat) : Bool := decide (t l ≠ 0) && sp_keeps T l (b + 1 - t l)
def sp_bits (T : sp_T) (t : Nat → Nat) (b : Nat) : Nat → Nat
  | 0 => 0
  | n + 1 => sp_bits T t b n + (if sp_hs T t b n = true then 2 ^ n else 0)
def sp_has (T : sp_T) (t : Nat → Nat) (b : Nat) : Nat := sp_bits T t b T.1
def sp_pc (n : Nat) : Nat := n % 2 + n / 2 % 2 + n / 4 % 2 + n / 8 % 2
def sp_up (f : Nat → Nat) (k v : Nat) : Nat → Nat := fun j => if j = k then v else f j
/-- the program's and the model's cells hold the lessons -/
def rl_L (T : sp_T) (P : Nat → Nat → Int32) : Prop := P 2 0 = nI T.1 ∧ T.1 ≤ 4 ∧ (∀ l, l < T.1 → P 3 l = nI (T.2.1 l) ∧ T.2.1 l < 6 ∧ P 4 l = nI (T.2.2.1 l) ∧ T.2.2.1 l ≤ 9 ∧ P 5 l = nI (T.2.2.2 l) ∧ T.2.2.2 l < 2 ^ l) ∧ ∀ j, j < 6 → P 12 j = nI (20 + j)
def rl_LM (T : sp_T) (P : Nat → Nat → Int32) : Prop := P 52 10 = nI T.1 ∧ T.1 ≤ 4 ∧ ∀ l, l < T.1 → P 56 l = nI (T.2.1 l) ∧ T.2.1 l < 6 ∧ P 57 l = nI (T.2.2.1 l) ∧ T.2.2.1 l ≤ 9 ∧ P 58 l = nI (T.2.2.2 l) ∧ T.2.2.2 l < 2 ^ l
theorem nI_vi {n N : Nat} (h : n < N) (hN : N < 2 ^ 31) : vp_in (nI n) N := vp_in_nI h hN
theorem sp_bits_lt (T : sp_T) (t : Nat → Nat) (b : Nat) : ∀ n, sp_bits T t b n < 2 ^ n
  | 0 => by simp [sp_bits]
  | n + 1 => by
    have := sp_bits_lt T t b n
    simp only [sp_bits]
    have h2 : 2 ^ (n + 1) = 2 ^ n + 2 ^ n := by rw [Nat.pow_succ]; omega
    split <;> omega
/-- nothing but the places s has changed -/
def fr_ (s : Nat → Nat → Bool) (g g' : Nat → Nat → Int32) : Prop := ∀ k j, s k j = false → g' k j = g k j
theorem fr_.rf {s : Nat → Nat → Bool} {g : Nat → Nat → Int32} : fr_ s g g := fun _ _ _ => rfl
theorem fr_.tr {s : Nat → Nat → Bool} {g g1 g2 : Nat → Nat → Int32} (h1 : fr_ s g g1) (h2 : fr_ s g1 g2) : fr_ s g g2 := fun k j h => (h2 k j h).trans (h1 k j h)
theorem fr_.mono {s s' : Nat → Nat → Bool} {g g' : Nat → Nat → Int32} (hs : ∀ k j, s' k j = false → s k j = false) (h : fr_ s g g') : fr_ s' g g' := fun k j q => h k j (hs k j q)
theorem fr_.up {s : Nat → Nat → Bool} {g g1 : Nat → Nat → Int32} {k j : Nat} (v : Int32) (h : fr_ s g g1) (hs : s k j = true) : fr_ s g (mm_up g1 k j v) := by
  intro a b q
  by_cases e : a = k ∧ b = j
  · obtain ⟨rfl, rfl⟩ := e
    rw [hs] at q
    cases q
  · have : (a == k && b == j) = false := by
      cases h1 : (a == k && b == j) with
      | false => rfl
      | true => simp at h1; exact absurd h1 e
    simp only [mm_up, this]
    exact h a b q
theorem fr_.nr {s : Nat → Nat → Bool} {g g' P : Nat → Nat → Int32} (h : fr_ s g g') (hs : ∀ k j, nr_s k j = false → s k j = false) (hP : nr_ g = P) : nr_ g' = P := by
  rw [← hP]
  funext k j
  cases q : nr_s k j with
  | true => simp [nr_, q]
  | false => simp [nr_, q, h k j (hs k j q)]
/-- scene and stack -/
def f1_ (k _ : Nat) : Bool := k == 13 || k == 14
theorem f1_nr : ∀ k j, nr_s k j = false → f1_ k j = false := by
  intro k j h
  unfold f1_
  cases h13 : k == 13 with
  | true => rw [show k = 13 by simpa using h13] at h; cases h
  | false =>
    cases h14 : k == 14 with
    | true => rw [show k = 14 by simpa using h14] at h; cases h
    | false => rfl
