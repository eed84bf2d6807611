/-! ===== a child's memory as one number ===== -/
theorem bt_and (a b : Nat) : nI a &&& nI b = nI (a &&& b) := by
  apply Int32.toBitVec_inj.mp
  show BitVec.ofNat 32 a &&& BitVec.ofNat 32 b = BitVec.ofNat 32 (a &&& b)
  apply BitVec.eq_of_toNat_eq
  simp [BitVec.toNat_and, Nat.and_mod_two_pow]
theorem bt_or (a b : Nat) : nI a ||| nI b = nI (a ||| b) := by
  apply Int32.toBitVec_inj.mp
  show BitVec.ofNat 32 a ||| BitVec.ofNat 32 b = BitVec.ofNat 32 (a ||| b)
  apply BitVec.eq_of_toNat_eq
  simp [BitVec.toNat_or, Nat.or_mod_two_pow]
/-- three bits at place p are put anew -/
theorem bt_put (hi dg lo p v : Nat) (hlo : lo < 2 ^ p) (hdg : dg < 8) (hv : v < 8) (hp : p ≤ 29) (hhi : hi < 2 ^ (29 - p)) : ((2 ^ p * (2 ^ 3 * hi + dg) + lo) &&& (2 ^ p * (2 ^ 3 * (2 ^ (29 - p) - 1) + 0) + (2 ^ p - 1))) ||| (2 ^ p * (2 ^ 3 * 0 + v) + 0) = 2 ^ p * (2 ^ 3 * hi + v) + lo := by
  have h0 : 0 < 2 ^ p := Nat.two_pow_pos p
  apply Nat.eq_of_testBit_eq
  intro i
  rw [Nat.testBit_or, Nat.testBit_and, Nat.testBit_two_pow_mul_add _ hlo, Nat.testBit_two_pow_mul_add _ (show 2 ^ p - 1 < 2 ^ p by omega), Nat.testBit_two_pow_mul_add _ h0, Nat.testBit_two_pow_mul_add _ hlo]
  by_cases hi1 : i < p
  · simp [hi1]
  · simp only [if_neg hi1]
    rw [Nat.testBit_two_pow_mul_add _ (show dg < 2 ^ 3 from hdg), Nat.testBit_two_pow_mul_add _ (show 0 < 2 ^ 3 by decide), Nat.testBit_two_pow_mul_add _ (show v < 2 ^ 3 from hv), Nat.testBit_two_pow_mul_add _ (show v < 2 ^ 3 from hv)]
    by_cases hi2 : i - p < 3
    · simp [hi2]
    · simp only [if_neg hi2]
      rw [Nat.testBit_two_pow_sub_one]
      by_cases hi3 : i - p - 3 < 29 - p
      · simp [hi3]
      · have : hi.testBit (i - p - 3) = false := Nat.testBit_lt_two_pow (Nat.lt_of_lt_of_le hhi (Nat.pow_le_pow_right (by decide) (by omega)))
        simp [this]
def sp_enc (c : sp_C) : Nat := c.1 0 + 8 * c.1 1 + 64 * c.1 2 + 512 * c.1 3 + 4096 * c.2 0 + 32768 * c.2 1 + 262144 * c.2 2 + 2097152 * c.2 3
def sp_ok (c : sp_C) : Prop := ∀ l, l < 4 → c.1 l < 7 ∧ c.2 l < 7
theorem sp_ok4 {c : sp_C} (h : sp_ok c) : (c.1 0 < 7 ∧ c.1 1 < 7 ∧ c.1 2 < 7 ∧ c.1 3 < 7) ∧ (c.2 0 < 7 ∧ c.2 1 < 7 ∧ c.2 2 < 7 ∧ c.2 3 < 7) :=
  ⟨⟨(h 0 (by decide)).1, (h 1 (by decide)).1, (h 2 (by decide)).1, (h 3 (by decide)).1⟩, (h 0 (by decide)).2, (h 1 (by decide)).2, (h 2 (by decide)).2, (h 3 (by decide)).2⟩
theorem sp_enc_lt {c : sp_C} (h : sp_ok c) : sp_enc c < 16777216 := by
  obtain ⟨⟨a0, a1, a2, a3⟩, b0, b1, b2, b3⟩ := sp_ok4 h
  unfold sp_enc
  omega
theorem me_times {c : sp_C} (h : sp_ok c) {l : Nat} (hl : l < 4) : f_Sp_timesHeard (nI (sp_enc c)) (nI l) = nI (c.1 l) := by
  have hE := sp_enc_lt h
  obtain ⟨⟨a0, a1, a2, a3⟩, b0, b1, b2, b3⟩ := sp_ok4 h
  unfold f_Sp_timesHeard
  match l, hl with
  | 0, _ => rw [pk_shrN (by omega) _ 0 (by decide), pk_andN (by omega) 3 (by decide)]; congr 1; unfold sp_enc; omega
  | 1, _ => rw [pk_shrN (by omega) _ 3 (by decide), pk_andN (by omega) 3 (by decide)]; congr 1; unfold sp_enc; omega
  | 2, _ => rw [pk_shrN (by omega) _ 6 (by decide), pk_andN (by omega) 3 (by decide)]; congr 1; unfold sp_enc; omega
  | 3, _ => rw [pk_shrN (by omega) _ 9 (by decide), pk_andN (by omega) 3 (by decide)]; congr 1; unfold sp_enc; omega
theorem me_last {c : sp_C} (h : sp_ok c) {l : Nat} (hl : l < 4) : f_Sp_lastUnderstood (nI (sp_enc c)) (nI l) = nI (c.2 l) - 1 := by
  have hE := sp_enc_lt h
  obtain ⟨⟨a0, a1, a2, a3⟩, b0, b1, b2, b3⟩ := sp_ok4 h
  unfold f_Sp_lastUnderstood
  match l, hl with
  | 0, _ => rw [pk_shrN (by omega) _ 12 (by decide), pk_andN (by omega) 3 (by decide)]; congr 2; unfold sp_enc; omega
  | 1, _ => rw [pk_shrN (by omega) _ 15 (by decide), pk_andN (by omega) 3 (by decide)]; congr 2; unfold sp_enc; omega
  | 2, _ => rw [pk_shrN (by omega) _ 18 (by decide), pk_andN (by omega) 3 (by decide)]; congr 2; unfold sp_enc; omega
  | 3, _ => rw [pk_shrN (by omega) _ 21 (by decide), pk_andN (by omega) 3 (by decide)]; congr 2; unfold sp_enc; omega
/-- heard once more -/
theorem me_hear {c : sp_C} {l : Nat} (hl : l < 4) : nI (sp_enc c) + (1 <<< ((3 * nI l) &&& 31)) = nI (sp_enc (sp_up c.1 l (c.1 l + 1), c.2)) := by
  match l, hl with
  | 0, _ => rw [show (1 : Int32) <<< ((3 * nI 0) &&& 31) = nI 1 by decide, nI_add]; congr 1; simp [sp_enc, sp_up]; omega
  | 1, _ => rw [show (1 : Int32) <<< ((3 * nI 1) &&& 31) = nI 8 by decide, nI_add]; congr 1; simp [sp_enc, sp_up]; omega
  | 2, _ => rw [show (1 : Int32) <<< ((3 * nI 2) &&& 31) = nI 64 by decide, nI_add]; congr 1; simp [sp_enc, sp_up]; omega
  | 3, _ => rw [show (1 : Int32) <<< ((3 * nI 3) &&& 31) = nI 512 by decide, nI_add]; congr 1; simp [sp_enc, sp_up]; omega
theorem me_set1 {E p v : Nat} (hi dg lo : Nat) (hE : E = 2 ^ p * (2 ^ 3 * hi + dg) + lo) (hlo : lo < 2 ^ p) (hdg : dg < 8) (hv : v < 8) (hp : p ≤ 29) (hhi : hi < 2 ^ (29 - p)) {m w : Int32} (hm : m = nI (2 ^ p * (2 ^ 3 * (2 ^ (29 - p) - 1) + 0) + (2 ^ p - 1))) (hw : w = nI (2 ^ p * (2 ^ 3 * 0 + v) + 0)) : (nI E &&& m) ||| w = nI (2 ^ p * (2 ^ 3 * hi + v) + lo) := by
  rw [hm, hw, bt_and, bt_or, hE, bt_put hi dg lo p v hlo hdg hv hp hhi]
theorem me_m0 : ((7 : Int32) <<< ((12 + 3 * nI 0) &&& 31)) ^^^ (-1) = nI (2 ^ 12 * (2 ^ 3 * (2 ^ (29 - 12) - 1) + 0) + (2 ^ 12 - 1)) := by decide +kernel
theorem me_m1 : ((7 : Int32) <<< ((12 + 3 * nI 1) &&& 31)) ^^^ (-1) = nI (2 ^ 15 * (2 ^ 3 * (2 ^ (29 - 15) - 1) + 0) + (2 ^ 15 - 1)) := by decide +kernel
theorem me_m2 : ((7 : Int32) <<< ((12 + 3 * nI 2) &&& 31)) ^^^ (-1) = nI (2 ^ 18 * (2 ^ 3 * (2 ^ (29 - 18) - 1) + 0) + (2 ^ 18 - 1)) := by decide +kernel
theorem me_m3 : ((7 : Int32) <<< ((12 + 3 * nI 3) &&& 31)) ^^^ (-1) = nI (2 ^ 21 * (2 ^ 3 * (2 ^ (29 - 21) - 1) + 0) + (2 ^ 21 - 1)) := by decide +kernel
theorem me_b7 : ∀ b, b < 6 → ∀ l, l < 4 → (nI b + 1) <<< ((12 + 3 * nI l) &&& 31) = nI (2 ^ (12 + 3 * l) * (2 ^ 3 * 0 + (b + 1)) + 0) := by decide +kernel
/-- understood at bend b -/
theorem me_put {c : sp_C} (h : sp_ok c) {l b : Nat} (hl : l < 4) (hb : b < 6) : (nI (sp_enc c) &&& ((7 <<< ((12 + 3 * nI l) &&& 31)) ^^^ (-1))) ||| ((nI b + 1) <<< ((12 + 3 * nI l) &&& 31)) = nI (sp_enc (c.1, sp_up c.2 l (b + 1))) := by
  obtain ⟨⟨a0, a1, a2, a3⟩, b0, b1, b2, b3⟩ := sp_ok4 h
  match l, hl with
  | 0, hl =>
    have e0 : sp_enc c = 2 ^ 12 * (2 ^ 3 * (c.2 1 + 8 * c.2 2 + 64 * c.2 3) + (c.2 0)) + (c.1 0 + 8 * c.1 1 + 64 * c.1 2 + 512 * c.1 3) := by simp only [sp_enc, show (2 : Nat) ^ 12 = 4096 from rfl]; omega
    rw [me_set1 (p := 12) (v := b + 1) (c.2 1 + 8 * c.2 2 + 64 * c.2 3) (c.2 0) (c.1 0 + 8 * c.1 1 + 64 * c.1 2 + 512 * c.1 3) e0 (by rw [show (2 : Nat) ^ 12 = 4096 from rfl]; omega) (by omega) (by omega) (by decide) (by rw [show (2 : Nat) ^ (29 - 12) = 131072 from rfl]; omega) me_m0 (me_b7 b hb 0 hl)]
    refine congrArg nI ?_
    simp [sp_enc, sp_up]
    omega
  | 1, hl =>
    have e0 : sp_enc c = 2 ^ 15 * (2 ^ 3 * (c.2 2 + 8 * c.2 3) + (c.2 1)) + (c.1 0 + 8 * c.1 1 + 64 * c.1 2 + 512 * c.1 3 + 4096 * c.2 0) := by simp only [sp_enc, show (2 : Nat) ^ 15 = 32768 from rfl]; omega
    rw [me_set1 (p := 15) (v := b + 1) (c.2 2 + 8 * c.2 3) (c.2 1) (c.1 0 + 8 * c.1 1 + 64 * c.1 2 + 512 * c.1 3 + 4096 * c.2 0) e0 (by rw [show (2 : Nat) ^ 15 = 32768 from rfl]; omega) (by omega) (by omega) (by decide) (by rw [show (2 : Nat) ^ (29 - 15) = 16384 from rfl]; omega) me_m1 (me_b7 b hb 1 hl)]
    refine congrArg nI ?_
    simp [sp_enc, sp_up]
    omega
  | 2, hl =>
    have e0 : sp_enc c = 2 ^ 18 * (2 ^ 3 * (c.2 3) + (c.2 2)) + (c.1 0 + 8 * c.1 1 + 64 * c.1 2 + 512 * c.1 3 + 4096 * c.2 0 + 32768 * c.2 1) := by simp only [sp_enc, show (2 : Nat) ^ 18 = 262144 from rfl]; omega
    rw [me_set1 (p := 18) (v := b + 1) (c.2 3) (c.2 2) (c.1 0 + 8 * c.1 1 + 64 * c.1 2 + 512 * c.1 3 + 4096 * c.2 0 + 32768 * c.2 1) e0 (by rw [show (2 : Nat) ^ 18 = 262144 from rfl]; omega) (by omega) (by omega) (by decide) (by rw [show (2 : Nat) ^ (29 - 18) = 2048 from rfl]; omega) me_m2 (me_b7 b hb 2 hl)]
    refine congrArg nI ?_
    simp [sp_enc, sp_up]
    omega
  | 3, hl =>
    have e0 : sp_enc c = 2 ^ 21 * (2 ^ 3 * 0 + (c.2 3)) + (c.1 0 + 8 * c.1 1 + 64 * c.1 2 + 512 * c.1 3 + 4096 * c.2 0 + 32768 * c.2 1 + 262144 * c.2 2) := by simp only [sp_enc, show (2 : Nat) ^ 21 = 2097152 from rfl]; omega
    rw [me_set1 (p := 21) (v := b + 1) 0 (c.2 3) (c.1 0 + 8 * c.1 1 + 64 * c.1 2 + 512 * c.1 3 + 4096 * c.2 0 + 32768 * c.2 1 + 262144 * c.2 2) e0 (by rw [show (2 : Nat) ^ 21 = 2097152 from rfl]; omega) (by omega) (by omega) (by decide) (by rw [show (2 : Nat) ^ (29 - 21) = 256 from rfl]; omega) me_m3 (me_b7 b hb 3 hl)]
    refine congrArg nI ?_
    simp [sp_enc, sp_up]
    omega
/-- how many bits -/
theorem pc_bc : ∀ n, n < 16 → f_In_bitCount (nI n) = nI (sp_pc n) := by decide +kernel
/-- a bit more -/
theorem bt_bit : ∀ n, n < 4 → ∀ m, m < 2 ^ n → nI m ||| (1 <<< (nI n &&& 31)) = nI (m + 2 ^ n) := by decide
theorem bt_tst : ∀ m, m < 16 → ∀ l, l < 4 → (nI m >>> (nI l &&& 31)) &&& 1 = nI (m / 2 ^ l % 2) := by decide +kernel
