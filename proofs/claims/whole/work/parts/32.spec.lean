/-! ===== scratch cells; the abstract state and what is said of it ===== -/
/-- places whose values last no longer than a call -/
def nr_s (k j : Nat) : Bool := match k with
  | 13 => true
  | 14 => true
  | 27 => true
  | 28 => true
  | 29 => true
  | 30 => true
  | 31 => Nat.ble 2 j
  | 33 => true
  | 43 => true
  | 44 => true
  | 52 => (Nat.ble 16 j && Nat.ble j 30) || j == 39 || j == 0
  | 63 => true
  | 64 => true
  | 65 => true
  | 66 => true
  | 67 => true
  | 68 => true
  | 69 => true
  | 70 => true
  | 71 => true
  | _ => false
def nr_ (g : Nat → Nat → Int32) : Nat → Nat → Int32 := fun k j => bif nr_s k j then 0 else g k j
theorem nr_at {g P : Nat → Nat → Int32} (hP : nr_ g = P) (k j : Nat) (hs : nr_s k j = false) : g k j = P k j := by
  rw [← hP]
  simp [nr_, hs]
theorem nr_up {g P : Nat → Nat → Int32} (hP : nr_ g = P) {k j : Nat} (v : Int32) (hs : nr_s k j = true) : nr_ (mm_up g k j v) = P := by
  rw [← hP]
  funext a b
  by_cases h : a = k ∧ b = j
  · obtain ⟨rfl, rfl⟩ := h
    simp [nr_, hs]
  · have : (a == k && b == j) = false := by
      cases h1 : (a == k && b == j) with
      | false => rfl
      | true => simp at h1; exact absurd h1 h
    simp [nr_, mm_up, this]
theorem nr_put {g P : Nat → Nat → Int32} (hP : nr_ g = P) {k j : Nat} (v : Int32) (hs : nr_s k j = false) : nr_ (mm_up g k j v) = mm_up P k j v := by
  rw [← hP]
  funext a b
  by_cases h : a = k ∧ b = j
  · obtain ⟨rfl, rfl⟩ := h
    simp [nr_, hs, mm_up]
  · have : (a == k && b == j) = false := by
      cases h1 : (a == k && b == j) with
      | false => rfl
      | true => simp at h1; exact absurd h1 h
    simp [nr_, mm_up, this]
/-- lessons: how many, kinds, numbers, needs -/
abbrev sp_T : Type := Nat × (Nat → Nat) × (Nat → Nat) × (Nat → Nat)
/-- by kind and number -/
def sp_kp (k n d : Nat) : Bool := match k with
  | 2 => decide (d ≤ n)
  | 3 => decide (d ≤ 4)
  | 4 => decide (d ≤ n) || decide (d % 2 = 0)
  | _ => true
def sp_tm (k n : Nat) : Nat := match k with
  | 1 => 1 + n % 3
  | 3 => 2 + n % 3
  | 4 => 1 + n % 2
  | 5 => 1 + n % 3
  | _ => 1
def sp_vl (k n : Nat) : Nat := match k with
  | 0 => 10 + n
  | 1 => 2 * (10 + n)
  | 2 => 5 + n
  | 3 => 2 * (10 + n) + n
  | 4 => (5 + n) / 2
  | _ => 2 * (10 + n) + 7
def sp_keeps (T : sp_T) (l d : Nat) : Bool := sp_kp (T.2.1 l) (T.2.2.1 l) d
def sp_times (T : sp_T) (l : Nat) : Nat := sp_tm (T.2.1 l) (T.2.2.1 l)
def sp_value (T : sp_T) (l : Nat) : Nat := sp_vl (T.2.1 l) (T.2.2.1 l)
/-- what a child carries: how often it heard each lesson; the bend of the latest understanding, and 1 (0: none) -/
abbrev sp_C : Type := (Nat → Nat) × (Nat → Nat)
def sp_hs (T : sp_T) (t : Nat → Nat) (b l : Nat) : Bool := decide (t l ≠ 0) && sp_keeps T l (b + 1 - t l)
def sp_bits (T : sp_T) (t : Nat → Nat) (b : Nat) : Nat → Nat
  | 0 => 0
  | n + 1 => sp_bits T t b n + (if sp_hs T t b n = true then 2 ^ n else 0)
def sp_has (T : sp_T) (t : Nat → Nat) (b : Nat) : Nat := sp_bits T t b T.1
def sp_pc (n : Nat) : Nat := n % 2 + n / 2 % 2 + n / 4 % 2 + n / 8 % 2
def sp_up (f : Nat → Nat) (k v : Nat) : Nat → Nat := fun j => if j = k then v else f j
/-- the program's and the model's cells hold the lessons -/
def rl_L (T : sp_T) (P : Nat → Nat → Int32) : Prop := P 2 0 = nI T.1 ∧ T.1 ≤ 4 ∧ (∀ l, l < T.1 → P 3 l = nI (T.2.1 l) ∧ T.2.1 l < 6 ∧ P 4 l = nI (T.2.2.1 l) ∧ T.2.2.1 l ≤ 9 ∧ P 5 l = nI (T.2.2.2 l) ∧ T.2.2.2 l < 2 ^ l) ∧ ∀ j, j < 6 → P 12 j = nI (20 + j)
def rl_LM (T : sp_T) (P : Nat → Nat → Int32) : Prop := P 52 10 = nI T.1 ∧ T.1 ≤ 4 ∧ ∀ l, l < T.1 → P 56 l = nI (T.2.1 l) ∧ T.2.1 l < 6 ∧ P 57 l = nI (T.2.2.1 l) ∧ T.2.2.1 l ≤ 9 ∧ P 58 l = nI (T.2.2.2 l) ∧ T.2.2.2 l < 2 ^ l
theorem nI_vi {n N : Nat} (h : n < N) (hN : N < 2 ^ 31) : vp_in (nI n) N := vp_in_nI h hN
theorem sp_bits_lt (T : sp_T) (t : Nat → Nat) (b : Nat) : ∀ n, sp_bits T t b n < 2 ^ n
  | 0 => by simp [sp_bits]
  | n + 1 => by
    have := sp_bits_lt T t b n
    simp only [sp_bits]
    have h2 : 2 ^ (n + 1) = 2 ^ n + 2 ^ n := by rw [Nat.pow_succ]; omega
    split <;> omega
