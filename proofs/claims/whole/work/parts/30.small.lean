/-! ===== the layout of the two objects; small methods ===== -/
def hp_SH : List mm_Sh := [.inr (11, [4, 28, 34, 37, 0, 46, 47, 48, 53, 54]), .inr (9, [5, 14, 0, 15, 16, 17, 18]), .inr (0, [0, 0, 0, 6, 7, 8, 9, 10, 11, 12, 13]), .inl (0, 4), .inl (0, 4), .inl (0, 4), .inl (0, 6), .inl (0, 6), .inl (0, 6), .inl (0, 6), .inl (0, 6), .inl (2, 6), .inl (3, 6), .inl (0, 6), .inl (0, 160), .inr (10, [19, 20, 21]), .inl (0, 1), .inl (0, 1), .inl (0, 1), .inr (2, []), .inr (4, []), .inr (3, []), .inr (1, []), .inr (8, []), .inr (5, []), .inr (7, [29, 0, 0, 30, 31, 32, 33]), .inl (0, 6), .inl (0, 6), .inl (0, 42), .inl (0, 5040), .inl (0, 840), .inr (6, [35, 0, 0, 0, 0, 36, 0]), .inl (0, 160), .inl (0, 160), .inr (0, [0, 0, 0, 38, 39, 40, 41, 42, 43, 44, 45]), .inl (0, 4), .inl (0, 4), .inl (0, 4), .inl (0, 6), .inl (0, 6), .inl (0, 6), .inl (0, 6), .inl (0, 6), .inl (0, 6), .inl (0, 6), .inl (4, 4), .inl (0, 40), .inl (0, 40), .inl (0, 40), .inl (0, 40), .inl (0, 4), .inl (0, 4), .inr (12, [0, 56, 57, 0, 0, 58, 0, 59, 60, 61, 0, 62, 63, 64, 0, 65, 0, 0, 0, 0, 0, 0, 0, 0, 0, 0, 0, 1, 0, 0, 0, 66, 67, 68, 69, 70, 71, 72, 73, 0, 74, 75, 0, 0, 0, 76, 77, 78, 79]), .inl (0, 960), .inl (0, 6), .inl (0, 160), .inl (0, 4), .inl (0, 4), .inl (0, 4), .inl (0, 6), .inl (0, 6), .inl (0, 6), .inl (0, 12), .inl (0, 5040), .inl (0, 840), .inl (0, 28), .inl (0, 28), .inl (0, 6), .inl (0, 6), .inl (0, 15625), .inl (0, 6), .inl (0, 6), .inl (0, 38), .inl (1, 4), .inl (0, 4), .inl (0, 4), .inl (0, 160)]
theorem hp_len (dy : List mm_Sh) : 77 ≤ (hp_SH ++ dy).length := by rw [List.length_append]; exact Nat.le_add_right _ _
theorem mm_vi {i : Int32} {n : Nat} (h : (!(decide (i < 0)) && decide (i.toNatClampNeg < n)) = true) : vp_in i n := by
  simp only [Bool.and_eq_true, Bool.not_eq_true', decide_eq_false_iff_not, decide_eq_true_eq] at h
  exact fun q => q.elim h.1 (fun q => absurd h.2 (Nat.not_lt.mpr q))
def f_Sc_isBend (x : Int32) : Int32 := (if x < 0 then 0 else (if 6 ≤ x then 0 else 1))
theorem zo_Sc_isBend (x : Int32) : f_Sc_isBend x = 0 ∨ f_Sc_isBend x = 1 := by
  unfold f_Sc_isBend
  repeat' split
  all_goals first | exact Or.inl rfl | exact Or.inr rfl
theorem ct_Sc_isBend (h : mm_Hp) (x : Int32) : mm_Ct 1 M_Sc_isBend [.int x] h 0 0 (fun v h' => v = some (.int (f_Sc_isBend x)) ∧ h' = h) := by
  refine mm_start pl_Sc (Nat.le_of_ble_eq_true rfl) ?_
  refine mm_I ok_Sc_isBend 0 1 1 [some (.int x)] [.int x] h [] rfl trivial rfl rfl (fun h1 => ?_) (fun h1 => ?_)
  · refine mm_B ok_Sc_isBend 7 1 (15, [some (.int x)], [.int 0], h) [] rfl trivial ?_
    exact mm_rz rfl (mm_at ok_Sc_isBend (i := 8) rfl).1 ⟨Nat.le_refl _, Nat.le_refl _⟩ (Or.inl rfl) ⟨congrArg some (congrArg Value.int (by simp only [f_Sc_isBend, if_pos h1])), rfl⟩
  · refine mm_I ok_Sc_isBend 2 2 7 [some (.int x)] [.int 6, .int x] h [] rfl trivial rfl rfl (fun h2 => ?_) (fun h2 => ?_)
    · refine mm_B ok_Sc_isBend 7 1 (15, [some (.int x)], [.int 0], h) [] rfl trivial ?_
      exact mm_rz rfl (mm_at ok_Sc_isBend (i := 8) rfl).1 ⟨Nat.le_refl _, Nat.le_refl _⟩ (Or.inl rfl) ⟨congrArg some (congrArg Value.int (by simp only [f_Sc_isBend, if_neg h1, if_pos h2])), rfl⟩
    · refine mm_B ok_Sc_isBend 5 2 (15, [some (.int x)], [.int 1], h) [] rfl trivial ?_
      exact mm_rz rfl (mm_at ok_Sc_isBend (i := 8) rfl).1 ⟨Nat.le_refl _, Nat.le_refl _⟩ (Or.inr rfl) ⟨congrArg some (congrArg Value.int (by simp only [f_Sc_isBend, if_neg h1, if_neg h2])), rfl⟩

def f_Sc_isRaft (x : Int32) : Int32 := (if x = 0 then 1 else (if x = 1 then 1 else 0))
theorem zo_Sc_isRaft (x : Int32) : f_Sc_isRaft x = 0 ∨ f_Sc_isRaft x = 1 := by
  unfold f_Sc_isRaft
  repeat' split
  all_goals first | exact Or.inl rfl | exact Or.inr rfl
theorem ct_Sc_isRaft (h : mm_Hp) (x : Int32) : mm_Ct 1 M_Sc_isRaft [.int x] h 0 0 (fun v h' => v = some (.int (f_Sc_isRaft x)) ∧ h' = h) := by
  refine mm_start pl_Sc (Nat.le_of_ble_eq_true rfl) ?_
  refine mm_I ok_Sc_isRaft 0 1 1 [some (.int x)] [.int x] h [] rfl trivial rfl rfl (fun h1 => ?_) (fun h1 => ?_)
  · refine mm_B ok_Sc_isRaft 5 2 (14, [some (.int x)], [.int 1], h) [] rfl trivial ?_
    exact mm_rz rfl (mm_at ok_Sc_isRaft (i := 8) rfl).1 ⟨Nat.le_refl _, Nat.le_refl _⟩ (Or.inr rfl) ⟨congrArg some (congrArg Value.int (by simp only [f_Sc_isRaft, if_pos h1])), rfl⟩
  · refine mm_I ok_Sc_isRaft 2 2 6 [some (.int x)] [.int 1, .int x] h [] rfl trivial rfl rfl (fun h2 => ?_) (fun h2 => ?_)
    · refine mm_B ok_Sc_isRaft 7 1 (14, [some (.int x)], [.int 0], h) [] rfl trivial ?_
      exact mm_rz rfl (mm_at ok_Sc_isRaft (i := 8) rfl).1 ⟨Nat.le_refl _, Nat.le_refl _⟩ (Or.inl rfl) ⟨congrArg some (congrArg Value.int (by simp only [f_Sc_isRaft, if_neg h1, if_neg h2])), rfl⟩
    · refine mm_B ok_Sc_isRaft 5 2 (14, [some (.int x)], [.int 1], h) [] rfl trivial ?_
      exact mm_rz rfl (mm_at ok_Sc_isRaft (i := 8) rfl).1 ⟨Nat.le_refl _, Nat.le_refl _⟩ (Or.inr rfl) ⟨congrArg some (congrArg Value.int (by simp only [f_Sc_isRaft, if_neg h1, if_pos h2])), rfl⟩

def f_Sc_isKind (x : Int32) : Int32 := (if x < 0 then 0 else (if 6 ≤ x then 0 else 1))
theorem zo_Sc_isKind (x : Int32) : f_Sc_isKind x = 0 ∨ f_Sc_isKind x = 1 := by
  unfold f_Sc_isKind
  repeat' split
  all_goals first | exact Or.inl rfl | exact Or.inr rfl
theorem ct_Sc_isKind (h : mm_Hp) (x : Int32) : mm_Ct 1 M_Sc_isKind [.int x] h 0 0 (fun v h' => v = some (.int (f_Sc_isKind x)) ∧ h' = h) := by
  refine mm_start pl_Sc (Nat.le_of_ble_eq_true rfl) ?_
  refine mm_I ok_Sc_isKind 0 1 1 [some (.int x)] [.int x] h [] rfl trivial rfl rfl (fun h1 => ?_) (fun h1 => ?_)
  · refine mm_B ok_Sc_isKind 7 1 (15, [some (.int x)], [.int 0], h) [] rfl trivial ?_
    exact mm_rz rfl (mm_at ok_Sc_isKind (i := 8) rfl).1 ⟨Nat.le_refl _, Nat.le_refl _⟩ (Or.inl rfl) ⟨congrArg some (congrArg Value.int (by simp only [f_Sc_isKind, if_pos h1])), rfl⟩
  · refine mm_I ok_Sc_isKind 2 2 7 [some (.int x)] [.int 6, .int x] h [] rfl trivial rfl rfl (fun h2 => ?_) (fun h2 => ?_)
    · refine mm_B ok_Sc_isKind 7 1 (15, [some (.int x)], [.int 0], h) [] rfl trivial ?_
      exact mm_rz rfl (mm_at ok_Sc_isKind (i := 8) rfl).1 ⟨Nat.le_refl _, Nat.le_refl _⟩ (Or.inl rfl) ⟨congrArg some (congrArg Value.int (by simp only [f_Sc_isKind, if_neg h1, if_pos h2])), rfl⟩
    · refine mm_B ok_Sc_isKind 5 2 (15, [some (.int x)], [.int 1], h) [] rfl trivial ?_
      exact mm_rz rfl (mm_at ok_Sc_isKind (i := 8) rfl).1 ⟨Nat.le_refl _, Nat.le_refl _⟩ (Or.inr rfl) ⟨congrArg some (congrArg Value.int (by simp only [f_Sc_isKind, if_neg h1, if_neg h2])), rfl⟩

def f_Sc_isNumber (x : Int32) : Int32 := (if x < 0 then 0 else (if 9 < x then 0 else 1))
theorem zo_Sc_isNumber (x : Int32) : f_Sc_isNumber x = 0 ∨ f_Sc_isNumber x = 1 := by
  unfold f_Sc_isNumber
  repeat' split
  all_goals first | exact Or.inl rfl | exact Or.inr rfl
theorem ct_Sc_isNumber (h : mm_Hp) (x : Int32) : mm_Ct 1 M_Sc_isNumber [.int x] h 0 0 (fun v h' => v = some (.int (f_Sc_isNumber x)) ∧ h' = h) := by
  refine mm_start pl_Sc (Nat.le_of_ble_eq_true rfl) ?_
  refine mm_I ok_Sc_isNumber 0 1 1 [some (.int x)] [.int x] h [] rfl trivial rfl rfl (fun h1 => ?_) (fun h1 => ?_)
  · refine mm_B ok_Sc_isNumber 7 1 (15, [some (.int x)], [.int 0], h) [] rfl trivial ?_
    exact mm_rz rfl (mm_at ok_Sc_isNumber (i := 8) rfl).1 ⟨Nat.le_refl _, Nat.le_refl _⟩ (Or.inl rfl) ⟨congrArg some (congrArg Value.int (by simp only [f_Sc_isNumber, if_pos h1])), rfl⟩
  · refine mm_I ok_Sc_isNumber 2 2 7 [some (.int x)] [.int 9, .int x] h [] rfl trivial rfl rfl (fun h2 => ?_) (fun h2 => ?_)
    · refine mm_B ok_Sc_isNumber 7 1 (15, [some (.int x)], [.int 0], h) [] rfl trivial ?_
      exact mm_rz rfl (mm_at ok_Sc_isNumber (i := 8) rfl).1 ⟨Nat.le_refl _, Nat.le_refl _⟩ (Or.inl rfl) ⟨congrArg some (congrArg Value.int (by simp only [f_Sc_isNumber, if_neg h1, if_pos h2])), rfl⟩
    · refine mm_B ok_Sc_isNumber 5 2 (15, [some (.int x)], [.int 1], h) [] rfl trivial ?_
      exact mm_rz rfl (mm_at ok_Sc_isNumber (i := 8) rfl).1 ⟨Nat.le_refl _, Nat.le_refl _⟩ (Or.inr rfl) ⟨congrArg some (congrArg Value.int (by simp only [f_Sc_isNumber, if_neg h1, if_neg h2])), rfl⟩

def f_Sc_isAge (x : Int32) : Int32 := (if x < 5 then 0 else (if 14 < x then 0 else 1))
theorem zo_Sc_isAge (x : Int32) : f_Sc_isAge x = 0 ∨ f_Sc_isAge x = 1 := by
  unfold f_Sc_isAge
  repeat' split
  all_goals first | exact Or.inl rfl | exact Or.inr rfl
theorem ct_Sc_isAge (h : mm_Hp) (x : Int32) : mm_Ct 1 M_Sc_isAge [.int x] h 0 0 (fun v h' => v = some (.int (f_Sc_isAge x)) ∧ h' = h) := by
  refine mm_start pl_Sc (Nat.le_of_ble_eq_true rfl) ?_
  refine mm_I ok_Sc_isAge 0 2 2 [some (.int x)] [.int 5, .int x] h [] rfl trivial rfl rfl (fun h1 => ?_) (fun h1 => ?_)
  · refine mm_B ok_Sc_isAge 8 1 (16, [some (.int x)], [.int 0], h) [] rfl trivial ?_
    exact mm_rz rfl (mm_at ok_Sc_isAge (i := 9) rfl).1 ⟨Nat.le_refl _, Nat.le_refl _⟩ (Or.inl rfl) ⟨congrArg some (congrArg Value.int (by simp only [f_Sc_isAge, if_pos h1])), rfl⟩
  · refine mm_I ok_Sc_isAge 3 2 8 [some (.int x)] [.int 14, .int x] h [] rfl trivial rfl rfl (fun h2 => ?_) (fun h2 => ?_)
    · refine mm_B ok_Sc_isAge 8 1 (16, [some (.int x)], [.int 0], h) [] rfl trivial ?_
      exact mm_rz rfl (mm_at ok_Sc_isAge (i := 9) rfl).1 ⟨Nat.le_refl _, Nat.le_refl _⟩ (Or.inl rfl) ⟨congrArg some (congrArg Value.int (by simp only [f_Sc_isAge, if_neg h1, if_pos h2])), rfl⟩
    · refine mm_B ok_Sc_isAge 6 2 (16, [some (.int x)], [.int 1], h) [] rfl trivial ?_
      exact mm_rz rfl (mm_at ok_Sc_isAge (i := 9) rfl).1 ⟨Nat.le_refl _, Nat.le_refl _⟩ (Or.inr rfl) ⟨congrArg some (congrArg Value.int (by simp only [f_Sc_isAge, if_neg h1, if_neg h2])), rfl⟩

def f_Sc_isWater (x : Int32) : Int32 := (if x < 0 then 0 else (if 10 < x then 0 else 1))
theorem zo_Sc_isWater (x : Int32) : f_Sc_isWater x = 0 ∨ f_Sc_isWater x = 1 := by
  unfold f_Sc_isWater
  repeat' split
  all_goals first | exact Or.inl rfl | exact Or.inr rfl
theorem ct_Sc_isWater (h : mm_Hp) (x : Int32) : mm_Ct 1 M_Sc_isWater [.int x] h 0 0 (fun v h' => v = some (.int (f_Sc_isWater x)) ∧ h' = h) := by
  refine mm_start pl_Sc (Nat.le_of_ble_eq_true rfl) ?_
  refine mm_I ok_Sc_isWater 0 1 1 [some (.int x)] [.int x] h [] rfl trivial rfl rfl (fun h1 => ?_) (fun h1 => ?_)
  · refine mm_B ok_Sc_isWater 7 1 (15, [some (.int x)], [.int 0], h) [] rfl trivial ?_
    exact mm_rz rfl (mm_at ok_Sc_isWater (i := 8) rfl).1 ⟨Nat.le_refl _, Nat.le_refl _⟩ (Or.inl rfl) ⟨congrArg some (congrArg Value.int (by simp only [f_Sc_isWater, if_pos h1])), rfl⟩
  · refine mm_I ok_Sc_isWater 2 2 7 [some (.int x)] [.int 10, .int x] h [] rfl trivial rfl rfl (fun h2 => ?_) (fun h2 => ?_)
    · refine mm_B ok_Sc_isWater 7 1 (15, [some (.int x)], [.int 0], h) [] rfl trivial ?_
      exact mm_rz rfl (mm_at ok_Sc_isWater (i := 8) rfl).1 ⟨Nat.le_refl _, Nat.le_refl _⟩ (Or.inl rfl) ⟨congrArg some (congrArg Value.int (by simp only [f_Sc_isWater, if_neg h1, if_pos h2])), rfl⟩
    · refine mm_B ok_Sc_isWater 5 2 (15, [some (.int x)], [.int 1], h) [] rfl trivial ?_
      exact mm_rz rfl (mm_at ok_Sc_isWater (i := 8) rfl).1 ⟨Nat.le_refl _, Nat.le_refl _⟩ (Or.inr rfl) ⟨congrArg some (congrArg Value.int (by simp only [f_Sc_isWater, if_neg h1, if_neg h2])), rfl⟩

def f_Sc_isSheet (x : Int32) : Int32 := (if x < 0 then 0 else (if 4 ≤ x then 0 else 1))
theorem zo_Sc_isSheet (x : Int32) : f_Sc_isSheet x = 0 ∨ f_Sc_isSheet x = 1 := by
  unfold f_Sc_isSheet
  repeat' split
  all_goals first | exact Or.inl rfl | exact Or.inr rfl
theorem ct_Sc_isSheet (h : mm_Hp) (x : Int32) : mm_Ct 1 M_Sc_isSheet [.int x] h 0 0 (fun v h' => v = some (.int (f_Sc_isSheet x)) ∧ h' = h) := by
  refine mm_start pl_Sc (Nat.le_of_ble_eq_true rfl) ?_
  refine mm_I ok_Sc_isSheet 0 1 1 [some (.int x)] [.int x] h [] rfl trivial rfl rfl (fun h1 => ?_) (fun h1 => ?_)
  · refine mm_B ok_Sc_isSheet 7 1 (14, [some (.int x)], [.int 0], h) [] rfl trivial ?_
    exact mm_rz rfl (mm_at ok_Sc_isSheet (i := 8) rfl).1 ⟨Nat.le_refl _, Nat.le_refl _⟩ (Or.inl rfl) ⟨congrArg some (congrArg Value.int (by simp only [f_Sc_isSheet, if_pos h1])), rfl⟩
  · refine mm_I ok_Sc_isSheet 2 2 6 [some (.int x)] [.int 4, .int x] h [] rfl trivial rfl rfl (fun h2 => ?_) (fun h2 => ?_)
    · refine mm_B ok_Sc_isSheet 7 1 (14, [some (.int x)], [.int 0], h) [] rfl trivial ?_
      exact mm_rz rfl (mm_at ok_Sc_isSheet (i := 8) rfl).1 ⟨Nat.le_refl _, Nat.le_refl _⟩ (Or.inl rfl) ⟨congrArg some (congrArg Value.int (by simp only [f_Sc_isSheet, if_neg h1, if_pos h2])), rfl⟩
    · refine mm_B ok_Sc_isSheet 5 2 (14, [some (.int x)], [.int 1], h) [] rfl trivial ?_
      exact mm_rz rfl (mm_at ok_Sc_isSheet (i := 8) rfl).1 ⟨Nat.le_refl _, Nat.le_refl _⟩ (Or.inr rfl) ⟨congrArg some (congrArg Value.int (by simp only [f_Sc_isSheet, if_neg h1, if_neg h2])), rfl⟩

def f_Sc_isSort (x : Int32) : Int32 := (if x < 0 then 0 else (if 3 ≤ x then 0 else 1))
theorem zo_Sc_isSort (x : Int32) : f_Sc_isSort x = 0 ∨ f_Sc_isSort x = 1 := by
  unfold f_Sc_isSort
  repeat' split
  all_goals first | exact Or.inl rfl | exact Or.inr rfl
theorem ct_Sc_isSort (h : mm_Hp) (x : Int32) : mm_Ct 1 M_Sc_isSort [.int x] h 0 0 (fun v h' => v = some (.int (f_Sc_isSort x)) ∧ h' = h) := by
  refine mm_start pl_Sc (Nat.le_of_ble_eq_true rfl) ?_
  refine mm_I ok_Sc_isSort 0 1 1 [some (.int x)] [.int x] h [] rfl trivial rfl rfl (fun h1 => ?_) (fun h1 => ?_)
  · refine mm_B ok_Sc_isSort 7 1 (14, [some (.int x)], [.int 0], h) [] rfl trivial ?_
    exact mm_rz rfl (mm_at ok_Sc_isSort (i := 8) rfl).1 ⟨Nat.le_refl _, Nat.le_refl _⟩ (Or.inl rfl) ⟨congrArg some (congrArg Value.int (by simp only [f_Sc_isSort, if_pos h1])), rfl⟩
  · refine mm_I ok_Sc_isSort 2 2 6 [some (.int x)] [.int 3, .int x] h [] rfl trivial rfl rfl (fun h2 => ?_) (fun h2 => ?_)
    · refine mm_B ok_Sc_isSort 7 1 (14, [some (.int x)], [.int 0], h) [] rfl trivial ?_
      exact mm_rz rfl (mm_at ok_Sc_isSort (i := 8) rfl).1 ⟨Nat.le_refl _, Nat.le_refl _⟩ (Or.inl rfl) ⟨congrArg some (congrArg Value.int (by simp only [f_Sc_isSort, if_neg h1, if_pos h2])), rfl⟩
    · refine mm_B ok_Sc_isSort 5 2 (14, [some (.int x)], [.int 1], h) [] rfl trivial ?_
      exact mm_rz rfl (mm_at ok_Sc_isSort (i := 8) rfl).1 ⟨Nat.le_refl _, Nat.le_refl _⟩ (Or.inr rfl) ⟨congrArg some (congrArg Value.int (by simp only [f_Sc_isSort, if_neg h1, if_neg h2])), rfl⟩

def f_Sc_areLessons (x y : Int32) : Int32 := (if ((x.toUInt32 >>> (y.toUInt32 &&& Int32.toUInt32 31)).toInt32) = 0 then 1 else 0)
theorem zo_Sc_areLessons (x y : Int32) : f_Sc_areLessons x y = 0 ∨ f_Sc_areLessons x y = 1 := by
  unfold f_Sc_areLessons
  repeat' split
  all_goals first | exact Or.inl rfl | exact Or.inr rfl
theorem ct_Sc_areLessons (h : mm_Hp) (x y : Int32) : mm_Ct 1 M_Sc_areLessons [.int x, .int y] h 0 0 (fun v h' => v = some (.int (f_Sc_areLessons x y)) ∧ h' = h) := by
  refine mm_start pl_Sc (Nat.le_of_ble_eq_true rfl) ?_
  refine mm_I ok_Sc_areLessons 0 3 3 [some (.int x), some (.int y)] [.int ((x.toUInt32 >>> (y.toUInt32 &&& Int32.toUInt32 31)).toInt32)] h [] rfl trivial rfl rfl (fun h1 => ?_) (fun h1 => ?_)
  · refine mm_B ok_Sc_areLessons 6 1 (11, [some (.int x), some (.int y)], [.int 0], h) [] rfl trivial ?_
    exact mm_rz rfl (mm_at ok_Sc_areLessons (i := 7) rfl).1 ⟨Nat.le_refl _, Nat.le_refl _⟩ (Or.inl rfl) ⟨congrArg some (congrArg Value.int (by simp only [f_Sc_areLessons, if_neg h1])), rfl⟩
  · refine mm_B ok_Sc_areLessons 4 2 (11, [some (.int x), some (.int y)], [.int 1], h) [] rfl trivial ?_
    exact mm_rz rfl (mm_at ok_Sc_areLessons (i := 7) rfl).1 ⟨Nat.le_refl _, Nat.le_refl _⟩ (Or.inr rfl) ⟨congrArg some (congrArg Value.int (by simp only [f_Sc_areLessons, if_pos h1])), rfl⟩

def f_Sc_isStretch (x y z : Int32) : Int32 := (if x < 0 then 0 else (if y < 0 then 0 else (if z < y then 0 else (if (z - y) < x then 0 else 1))))
theorem zo_Sc_isStretch (x y z : Int32) : f_Sc_isStretch x y z = 0 ∨ f_Sc_isStretch x y z = 1 := by
  unfold f_Sc_isStretch
  repeat' split
  all_goals first | exact Or.inl rfl | exact Or.inr rfl
theorem ct_Sc_isStretch (h : mm_Hp) (x y z : Int32) : mm_Ct 1 M_Sc_isStretch [.int x, .int y, .int z] h 0 0 (fun v h' => v = some (.int (f_Sc_isStretch x y z)) ∧ h' = h) := by
  refine mm_start pl_Sc (Nat.le_of_ble_eq_true rfl) ?_
  refine mm_I ok_Sc_isStretch 0 1 1 [some (.int x), some (.int y), some (.int z)] [.int x] h [] rfl trivial rfl rfl (fun h1 => ?_) (fun h1 => ?_)
  · refine mm_B ok_Sc_isStretch 14 1 (25, [some (.int x), some (.int y), some (.int z)], [.int 0], h) [] rfl trivial ?_
    exact mm_rz rfl (mm_at ok_Sc_isStretch (i := 15) rfl).1 ⟨Nat.le_refl _, Nat.le_refl _⟩ (Or.inl rfl) ⟨congrArg some (congrArg Value.int (by simp only [f_Sc_isStretch, if_pos h1])), rfl⟩
  · refine mm_I ok_Sc_isStretch 2 1 5 [some (.int x), some (.int y), some (.int z)] [.int y] h [] rfl trivial rfl rfl (fun h2 => ?_) (fun h2 => ?_)
    · refine mm_B ok_Sc_isStretch 14 1 (25, [some (.int x), some (.int y), some (.int z)], [.int 0], h) [] rfl trivial ?_
      exact mm_rz rfl (mm_at ok_Sc_isStretch (i := 15) rfl).1 ⟨Nat.le_refl _, Nat.le_refl _⟩ (Or.inl rfl) ⟨congrArg some (congrArg Value.int (by simp only [f_Sc_isStretch, if_neg h1, if_pos h2])), rfl⟩
    · refine mm_I ok_Sc_isStretch 4 2 10 [some (.int x), some (.int y), some (.int z)] [.int z, .int y] h [] rfl trivial rfl rfl (fun h3 => ?_) (fun h3 => ?_)
      · refine mm_B ok_Sc_isStretch 14 1 (25, [some (.int x), some (.int y), some (.int z)], [.int 0], h) [] rfl trivial ?_
        exact mm_rz rfl (mm_at ok_Sc_isStretch (i := 15) rfl).1 ⟨Nat.le_refl _, Nat.le_refl _⟩ (Or.inl rfl) ⟨congrArg some (congrArg Value.int (by simp only [f_Sc_isStretch, if_neg h1, if_neg h2, if_pos h3])), rfl⟩
      · refine mm_I ok_Sc_isStretch 7 4 17 [some (.int x), some (.int y), some (.int z)] [.int (z - y), .int x] h [] rfl trivial rfl rfl (fun h4 => ?_) (fun h4 => ?_)
        · refine mm_B ok_Sc_isStretch 14 1 (25, [some (.int x), some (.int y), some (.int z)], [.int 0], h) [] rfl trivial ?_
          exact mm_rz rfl (mm_at ok_Sc_isStretch (i := 15) rfl).1 ⟨Nat.le_refl _, Nat.le_refl _⟩ (Or.inl rfl) ⟨congrArg some (congrArg Value.int (by simp only [f_Sc_isStretch, if_neg h1, if_neg h2, if_neg h3, if_pos h4])), rfl⟩
        · refine mm_B ok_Sc_isStretch 12 2 (25, [some (.int x), some (.int y), some (.int z)], [.int 1], h) [] rfl trivial ?_
          exact mm_rz rfl (mm_at ok_Sc_isStretch (i := 15) rfl).1 ⟨Nat.le_refl _, Nat.le_refl _⟩ (Or.inr rfl) ⟨congrArg some (congrArg Value.int (by simp only [f_Sc_isStretch, if_neg h1, if_neg h2, if_neg h3, if_neg h4])), rfl⟩

def f_Sc_trimmed (x y : Int32) : Int32 := (if x = 0 then y.toInt8.toInt32 else (if x = 1 then y.toInt16.toInt32 else y))
theorem ct_Sc_trimmed (h : mm_Hp) (x y : Int32) : mm_Ct 1 M_Sc_trimmed [.int x, .int y] h 0 0 (fun v h' => v = some (.int (f_Sc_trimmed x y)) ∧ h' = h) := by
  refine mm_start pl_Sc (Nat.le_of_ble_eq_true rfl) ?_
  refine mm_I ok_Sc_trimmed 0 1 1 [some (.int x), some (.int y)] [.int x] h [] rfl trivial rfl rfl (fun h1 => ?_) (fun h1 => ?_)
  · refine mm_I ok_Sc_trimmed 5 2 11 [some (.int x), some (.int y)] [.int 1, .int x] h [] rfl trivial rfl rfl (fun h2 => ?_) (fun h2 => ?_)
    · refine mm_B ok_Sc_trimmed 11 1 (20, [some (.int x), some (.int y)], [.int y], h) [] rfl trivial ?_
      exact mm_ri rfl (mm_at ok_Sc_trimmed (i := 12) rfl).1 ⟨Nat.le_refl _, Nat.le_refl _⟩ ⟨congrArg some (congrArg Value.int (by simp only [f_Sc_trimmed, if_neg h1, if_neg h2])), rfl⟩
    · refine mm_B ok_Sc_trimmed 8 3 (20, [some (.int x), some (.int y)], [.int y.toInt16.toInt32], h) [] rfl trivial ?_
      exact mm_ri rfl (mm_at ok_Sc_trimmed (i := 12) rfl).1 ⟨Nat.le_refl _, Nat.le_refl _⟩ ⟨congrArg some (congrArg Value.int (by simp only [f_Sc_trimmed, if_neg h1, if_pos h2])), rfl⟩
  · refine mm_B ok_Sc_trimmed 2 3 (20, [some (.int x), some (.int y)], [.int y.toInt8.toInt32], h) [] rfl trivial ?_
    exact mm_ri rfl (mm_at ok_Sc_trimmed (i := 12) rfl).1 ⟨Nat.le_refl _, Nat.le_refl _⟩ ⟨congrArg some (congrArg Value.int (by simp only [f_Sc_trimmed, if_pos h1])), rfl⟩

def f_Sp_timesHeard (x y : Int32) : Int32 := ((x >>> ((3 * y) &&& 31)) &&& 7)
theorem ct_Sp_timesHeard (h : mm_Hp) (x y : Int32) : mm_Ct 1 M_Sp_timesHeard [.int x, .int y] h 0 0 (fun v h' => v = some (.int (f_Sp_timesHeard x y)) ∧ h' = h) := by
  refine mm_start pl_Sp (Nat.le_of_ble_eq_true rfl) ?_
  refine mm_B ok_Sp_timesHeard 0 7 (8, [some (.int x), some (.int y)], [.int ((x >>> ((3 * y) &&& 31)) &&& 7)], h) [] rfl trivial ?_
  exact mm_ri rfl (mm_at ok_Sp_timesHeard (i := 7) rfl).1 ⟨Nat.le_refl _, Nat.le_refl _⟩ ⟨congrArg some (congrArg Value.int (rfl)), rfl⟩

def f_Sp_lastUnderstood (x y : Int32) : Int32 := (((x >>> ((12 + (3 * y)) &&& 31)) &&& 7) - 1)
theorem ct_Sp_lastUnderstood (h : mm_Hp) (x y : Int32) : mm_Ct 1 M_Sp_lastUnderstood [.int x, .int y] h 0 0 (fun v h' => v = some (.int (f_Sp_lastUnderstood x y)) ∧ h' = h) := by
  refine mm_start pl_Sp (Nat.le_of_ble_eq_true rfl) ?_
  refine mm_B ok_Sp_lastUnderstood 0 11 (13, [some (.int x), some (.int y)], [.int (((x >>> ((12 + (3 * y)) &&& 31)) &&& 7) - 1)], h) [] rfl trivial ?_
  exact mm_ri rfl (mm_at ok_Sp_lastUnderstood (i := 11) rfl).1 ⟨Nat.le_refl _, Nat.le_refl _⟩ ⟨congrArg some (congrArg Value.int (rfl)), rfl⟩

def f_Re_isDigit (x : Int32) : Int32 := (if x < 48 then 0 else (if 57 < x then 0 else 1))
theorem zo_Re_isDigit (x : Int32) : f_Re_isDigit x = 0 ∨ f_Re_isDigit x = 1 := by
  unfold f_Re_isDigit
  repeat' split
  all_goals first | exact Or.inl rfl | exact Or.inr rfl
theorem ct_Re_isDigit (h : mm_Hp) (x : Int32) : mm_Ct 1 M_Re_isDigit [.int x] h 0 0 (fun v h' => v = some (.int (f_Re_isDigit x)) ∧ h' = h) := by
  refine mm_start pl_Re (Nat.le_of_ble_eq_true rfl) ?_
  refine mm_I ok_Re_isDigit 0 2 3 [some (.int x)] [.int 48, .int x] h [] rfl trivial rfl rfl (fun h1 => ?_) (fun h1 => ?_)
  · refine mm_B ok_Re_isDigit 8 1 (17, [some (.int x)], [.int 0], h) [] rfl trivial ?_
    exact mm_rz rfl (mm_at ok_Re_isDigit (i := 9) rfl).1 ⟨Nat.le_refl _, Nat.le_refl _⟩ (Or.inl rfl) ⟨congrArg some (congrArg Value.int (by simp only [f_Re_isDigit, if_pos h1])), rfl⟩
  · refine mm_I ok_Re_isDigit 3 2 9 [some (.int x)] [.int 57, .int x] h [] rfl trivial rfl rfl (fun h2 => ?_) (fun h2 => ?_)
    · refine mm_B ok_Re_isDigit 8 1 (17, [some (.int x)], [.int 0], h) [] rfl trivial ?_
      exact mm_rz rfl (mm_at ok_Re_isDigit (i := 9) rfl).1 ⟨Nat.le_refl _, Nat.le_refl _⟩ (Or.inl rfl) ⟨congrArg some (congrArg Value.int (by simp only [f_Re_isDigit, if_neg h1, if_pos h2])), rfl⟩
    · refine mm_B ok_Re_isDigit 6 2 (17, [some (.int x)], [.int 1], h) [] rfl trivial ?_
      exact mm_rz rfl (mm_at ok_Re_isDigit (i := 9) rfl).1 ⟨Nat.le_refl _, Nat.le_refl _⟩ (Or.inr rfl) ⟨congrArg some (congrArg Value.int (by simp only [f_Re_isDigit, if_neg h1, if_neg h2])), rfl⟩

def f_Re_isLetter (x : Int32) : Int32 := (if x < 97 then 0 else (if 122 < x then 0 else 1))
theorem zo_Re_isLetter (x : Int32) : f_Re_isLetter x = 0 ∨ f_Re_isLetter x = 1 := by
  unfold f_Re_isLetter
  repeat' split
  all_goals first | exact Or.inl rfl | exact Or.inr rfl
theorem ct_Re_isLetter (h : mm_Hp) (x : Int32) : mm_Ct 1 M_Re_isLetter [.int x] h 0 0 (fun v h' => v = some (.int (f_Re_isLetter x)) ∧ h' = h) := by
  refine mm_start pl_Re (Nat.le_of_ble_eq_true rfl) ?_
  refine mm_I ok_Re_isLetter 0 2 3 [some (.int x)] [.int 97, .int x] h [] rfl trivial rfl rfl (fun h1 => ?_) (fun h1 => ?_)
  · refine mm_B ok_Re_isLetter 8 1 (17, [some (.int x)], [.int 0], h) [] rfl trivial ?_
    exact mm_rz rfl (mm_at ok_Re_isLetter (i := 9) rfl).1 ⟨Nat.le_refl _, Nat.le_refl _⟩ (Or.inl rfl) ⟨congrArg some (congrArg Value.int (by simp only [f_Re_isLetter, if_pos h1])), rfl⟩
  · refine mm_I ok_Re_isLetter 3 2 9 [some (.int x)] [.int 122, .int x] h [] rfl trivial rfl rfl (fun h2 => ?_) (fun h2 => ?_)
    · refine mm_B ok_Re_isLetter 8 1 (17, [some (.int x)], [.int 0], h) [] rfl trivial ?_
      exact mm_rz rfl (mm_at ok_Re_isLetter (i := 9) rfl).1 ⟨Nat.le_refl _, Nat.le_refl _⟩ (Or.inl rfl) ⟨congrArg some (congrArg Value.int (by simp only [f_Re_isLetter, if_neg h1, if_pos h2])), rfl⟩
    · refine mm_B ok_Re_isLetter 6 2 (17, [some (.int x)], [.int 1], h) [] rfl trivial ?_
      exact mm_rz rfl (mm_at ok_Re_isLetter (i := 9) rfl).1 ⟨Nat.le_refl _, Nat.le_refl _⟩ (Or.inr rfl) ⟨congrArg some (congrArg Value.int (by simp only [f_Re_isLetter, if_neg h1, if_neg h2])), rfl⟩

def f_In_bitCount (x : Int32) : Int32 := ((((((((x - (((x.toUInt32 >>> ((1 : Int32).toUInt32 &&& Int32.toUInt32 31)).toInt32) &&& 1431655765)) &&& 858993459) + ((((x - (((x.toUInt32 >>> ((1 : Int32).toUInt32 &&& Int32.toUInt32 31)).toInt32) &&& 1431655765)).toUInt32 >>> ((2 : Int32).toUInt32 &&& Int32.toUInt32 31)).toInt32) &&& 858993459)) + (((((x - (((x.toUInt32 >>> ((1 : Int32).toUInt32 &&& Int32.toUInt32 31)).toInt32) &&& 1431655765)) &&& 858993459) + ((((x - (((x.toUInt32 >>> ((1 : Int32).toUInt32 &&& Int32.toUInt32 31)).toInt32) &&& 1431655765)).toUInt32 >>> ((2 : Int32).toUInt32 &&& Int32.toUInt32 31)).toInt32) &&& 858993459)).toUInt32 >>> ((4 : Int32).toUInt32 &&& Int32.toUInt32 31)).toInt32)) &&& 252645135) + (((((((x - (((x.toUInt32 >>> ((1 : Int32).toUInt32 &&& Int32.toUInt32 31)).toInt32) &&& 1431655765)) &&& 858993459) + ((((x - (((x.toUInt32 >>> ((1 : Int32).toUInt32 &&& Int32.toUInt32 31)).toInt32) &&& 1431655765)).toUInt32 >>> ((2 : Int32).toUInt32 &&& Int32.toUInt32 31)).toInt32) &&& 858993459)) + (((((x - (((x.toUInt32 >>> ((1 : Int32).toUInt32 &&& Int32.toUInt32 31)).toInt32) &&& 1431655765)) &&& 858993459) + ((((x - (((x.toUInt32 >>> ((1 : Int32).toUInt32 &&& Int32.toUInt32 31)).toInt32) &&& 1431655765)).toUInt32 >>> ((2 : Int32).toUInt32 &&& Int32.toUInt32 31)).toInt32) &&& 858993459)).toUInt32 >>> ((4 : Int32).toUInt32 &&& Int32.toUInt32 31)).toInt32)) &&& 252645135).toUInt32 >>> ((8 : Int32).toUInt32 &&& Int32.toUInt32 31)).toInt32)) + ((((((((x - (((x.toUInt32 >>> ((1 : Int32).toUInt32 &&& Int32.toUInt32 31)).toInt32) &&& 1431655765)) &&& 858993459) + ((((x - (((x.toUInt32 >>> ((1 : Int32).toUInt32 &&& Int32.toUInt32 31)).toInt32) &&& 1431655765)).toUInt32 >>> ((2 : Int32).toUInt32 &&& Int32.toUInt32 31)).toInt32) &&& 858993459)) + (((((x - (((x.toUInt32 >>> ((1 : Int32).toUInt32 &&& Int32.toUInt32 31)).toInt32) &&& 1431655765)) &&& 858993459) + ((((x - (((x.toUInt32 >>> ((1 : Int32).toUInt32 &&& Int32.toUInt32 31)).toInt32) &&& 1431655765)).toUInt32 >>> ((2 : Int32).toUInt32 &&& Int32.toUInt32 31)).toInt32) &&& 858993459)).toUInt32 >>> ((4 : Int32).toUInt32 &&& Int32.toUInt32 31)).toInt32)) &&& 252645135) + (((((((x - (((x.toUInt32 >>> ((1 : Int32).toUInt32 &&& Int32.toUInt32 31)).toInt32) &&& 1431655765)) &&& 858993459) + ((((x - (((x.toUInt32 >>> ((1 : Int32).toUInt32 &&& Int32.toUInt32 31)).toInt32) &&& 1431655765)).toUInt32 >>> ((2 : Int32).toUInt32 &&& Int32.toUInt32 31)).toInt32) &&& 858993459)) + (((((x - (((x.toUInt32 >>> ((1 : Int32).toUInt32 &&& Int32.toUInt32 31)).toInt32) &&& 1431655765)) &&& 858993459) + ((((x - (((x.toUInt32 >>> ((1 : Int32).toUInt32 &&& Int32.toUInt32 31)).toInt32) &&& 1431655765)).toUInt32 >>> ((2 : Int32).toUInt32 &&& Int32.toUInt32 31)).toInt32) &&& 858993459)).toUInt32 >>> ((4 : Int32).toUInt32 &&& Int32.toUInt32 31)).toInt32)) &&& 252645135).toUInt32 >>> ((8 : Int32).toUInt32 &&& Int32.toUInt32 31)).toInt32)).toUInt32 >>> ((16 : Int32).toUInt32 &&& Int32.toUInt32 31)).toInt32)) &&& 63)
theorem ct_In_bitCount (h : mm_Hp) (x : Int32) : mm_Ct 1 M_In_bitCount [.int x] h 0 0 (fun v h' => v = some (.int (f_In_bitCount x)) ∧ h' = h) := by
  refine mm_start pl_In (Nat.le_of_ble_eq_true rfl) ?_
  refine mm_B ok_In_bitCount 0 41 (52, [some (.int (((((((x - (((x.toUInt32 >>> ((1 : Int32).toUInt32 &&& Int32.toUInt32 31)).toInt32) &&& 1431655765)) &&& 858993459) + ((((x - (((x.toUInt32 >>> ((1 : Int32).toUInt32 &&& Int32.toUInt32 31)).toInt32) &&& 1431655765)).toUInt32 >>> ((2 : Int32).toUInt32 &&& Int32.toUInt32 31)).toInt32) &&& 858993459)) + (((((x - (((x.toUInt32 >>> ((1 : Int32).toUInt32 &&& Int32.toUInt32 31)).toInt32) &&& 1431655765)) &&& 858993459) + ((((x - (((x.toUInt32 >>> ((1 : Int32).toUInt32 &&& Int32.toUInt32 31)).toInt32) &&& 1431655765)).toUInt32 >>> ((2 : Int32).toUInt32 &&& Int32.toUInt32 31)).toInt32) &&& 858993459)).toUInt32 >>> ((4 : Int32).toUInt32 &&& Int32.toUInt32 31)).toInt32)) &&& 252645135) + (((((((x - (((x.toUInt32 >>> ((1 : Int32).toUInt32 &&& Int32.toUInt32 31)).toInt32) &&& 1431655765)) &&& 858993459) + ((((x - (((x.toUInt32 >>> ((1 : Int32).toUInt32 &&& Int32.toUInt32 31)).toInt32) &&& 1431655765)).toUInt32 >>> ((2 : Int32).toUInt32 &&& Int32.toUInt32 31)).toInt32) &&& 858993459)) + (((((x - (((x.toUInt32 >>> ((1 : Int32).toUInt32 &&& Int32.toUInt32 31)).toInt32) &&& 1431655765)) &&& 858993459) + ((((x - (((x.toUInt32 >>> ((1 : Int32).toUInt32 &&& Int32.toUInt32 31)).toInt32) &&& 1431655765)).toUInt32 >>> ((2 : Int32).toUInt32 &&& Int32.toUInt32 31)).toInt32) &&& 858993459)).toUInt32 >>> ((4 : Int32).toUInt32 &&& Int32.toUInt32 31)).toInt32)) &&& 252645135).toUInt32 >>> ((8 : Int32).toUInt32 &&& Int32.toUInt32 31)).toInt32)) + ((((((((x - (((x.toUInt32 >>> ((1 : Int32).toUInt32 &&& Int32.toUInt32 31)).toInt32) &&& 1431655765)) &&& 858993459) + ((((x - (((x.toUInt32 >>> ((1 : Int32).toUInt32 &&& Int32.toUInt32 31)).toInt32) &&& 1431655765)).toUInt32 >>> ((2 : Int32).toUInt32 &&& Int32.toUInt32 31)).toInt32) &&& 858993459)) + (((((x - (((x.toUInt32 >>> ((1 : Int32).toUInt32 &&& Int32.toUInt32 31)).toInt32) &&& 1431655765)) &&& 858993459) + ((((x - (((x.toUInt32 >>> ((1 : Int32).toUInt32 &&& Int32.toUInt32 31)).toInt32) &&& 1431655765)).toUInt32 >>> ((2 : Int32).toUInt32 &&& Int32.toUInt32 31)).toInt32) &&& 858993459)).toUInt32 >>> ((4 : Int32).toUInt32 &&& Int32.toUInt32 31)).toInt32)) &&& 252645135) + (((((((x - (((x.toUInt32 >>> ((1 : Int32).toUInt32 &&& Int32.toUInt32 31)).toInt32) &&& 1431655765)) &&& 858993459) + ((((x - (((x.toUInt32 >>> ((1 : Int32).toUInt32 &&& Int32.toUInt32 31)).toInt32) &&& 1431655765)).toUInt32 >>> ((2 : Int32).toUInt32 &&& Int32.toUInt32 31)).toInt32) &&& 858993459)) + (((((x - (((x.toUInt32 >>> ((1 : Int32).toUInt32 &&& Int32.toUInt32 31)).toInt32) &&& 1431655765)) &&& 858993459) + ((((x - (((x.toUInt32 >>> ((1 : Int32).toUInt32 &&& Int32.toUInt32 31)).toInt32) &&& 1431655765)).toUInt32 >>> ((2 : Int32).toUInt32 &&& Int32.toUInt32 31)).toInt32) &&& 858993459)).toUInt32 >>> ((4 : Int32).toUInt32 &&& Int32.toUInt32 31)).toInt32)) &&& 252645135).toUInt32 >>> ((8 : Int32).toUInt32 &&& Int32.toUInt32 31)).toInt32)).toUInt32 >>> ((16 : Int32).toUInt32 &&& Int32.toUInt32 31)).toInt32)))], [.int ((((((((x - (((x.toUInt32 >>> ((1 : Int32).toUInt32 &&& Int32.toUInt32 31)).toInt32) &&& 1431655765)) &&& 858993459) + ((((x - (((x.toUInt32 >>> ((1 : Int32).toUInt32 &&& Int32.toUInt32 31)).toInt32) &&& 1431655765)).toUInt32 >>> ((2 : Int32).toUInt32 &&& Int32.toUInt32 31)).toInt32) &&& 858993459)) + (((((x - (((x.toUInt32 >>> ((1 : Int32).toUInt32 &&& Int32.toUInt32 31)).toInt32) &&& 1431655765)) &&& 858993459) + ((((x - (((x.toUInt32 >>> ((1 : Int32).toUInt32 &&& Int32.toUInt32 31)).toInt32) &&& 1431655765)).toUInt32 >>> ((2 : Int32).toUInt32 &&& Int32.toUInt32 31)).toInt32) &&& 858993459)).toUInt32 >>> ((4 : Int32).toUInt32 &&& Int32.toUInt32 31)).toInt32)) &&& 252645135) + (((((((x - (((x.toUInt32 >>> ((1 : Int32).toUInt32 &&& Int32.toUInt32 31)).toInt32) &&& 1431655765)) &&& 858993459) + ((((x - (((x.toUInt32 >>> ((1 : Int32).toUInt32 &&& Int32.toUInt32 31)).toInt32) &&& 1431655765)).toUInt32 >>> ((2 : Int32).toUInt32 &&& Int32.toUInt32 31)).toInt32) &&& 858993459)) + (((((x - (((x.toUInt32 >>> ((1 : Int32).toUInt32 &&& Int32.toUInt32 31)).toInt32) &&& 1431655765)) &&& 858993459) + ((((x - (((x.toUInt32 >>> ((1 : Int32).toUInt32 &&& Int32.toUInt32 31)).toInt32) &&& 1431655765)).toUInt32 >>> ((2 : Int32).toUInt32 &&& Int32.toUInt32 31)).toInt32) &&& 858993459)).toUInt32 >>> ((4 : Int32).toUInt32 &&& Int32.toUInt32 31)).toInt32)) &&& 252645135).toUInt32 >>> ((8 : Int32).toUInt32 &&& Int32.toUInt32 31)).toInt32)) + ((((((((x - (((x.toUInt32 >>> ((1 : Int32).toUInt32 &&& Int32.toUInt32 31)).toInt32) &&& 1431655765)) &&& 858993459) + ((((x - (((x.toUInt32 >>> ((1 : Int32).toUInt32 &&& Int32.toUInt32 31)).toInt32) &&& 1431655765)).toUInt32 >>> ((2 : Int32).toUInt32 &&& Int32.toUInt32 31)).toInt32) &&& 858993459)) + (((((x - (((x.toUInt32 >>> ((1 : Int32).toUInt32 &&& Int32.toUInt32 31)).toInt32) &&& 1431655765)) &&& 858993459) + ((((x - (((x.toUInt32 >>> ((1 : Int32).toUInt32 &&& Int32.toUInt32 31)).toInt32) &&& 1431655765)).toUInt32 >>> ((2 : Int32).toUInt32 &&& Int32.toUInt32 31)).toInt32) &&& 858993459)).toUInt32 >>> ((4 : Int32).toUInt32 &&& Int32.toUInt32 31)).toInt32)) &&& 252645135) + (((((((x - (((x.toUInt32 >>> ((1 : Int32).toUInt32 &&& Int32.toUInt32 31)).toInt32) &&& 1431655765)) &&& 858993459) + ((((x - (((x.toUInt32 >>> ((1 : Int32).toUInt32 &&& Int32.toUInt32 31)).toInt32) &&& 1431655765)).toUInt32 >>> ((2 : Int32).toUInt32 &&& Int32.toUInt32 31)).toInt32) &&& 858993459)) + (((((x - (((x.toUInt32 >>> ((1 : Int32).toUInt32 &&& Int32.toUInt32 31)).toInt32) &&& 1431655765)) &&& 858993459) + ((((x - (((x.toUInt32 >>> ((1 : Int32).toUInt32 &&& Int32.toUInt32 31)).toInt32) &&& 1431655765)).toUInt32 >>> ((2 : Int32).toUInt32 &&& Int32.toUInt32 31)).toInt32) &&& 858993459)).toUInt32 >>> ((4 : Int32).toUInt32 &&& Int32.toUInt32 31)).toInt32)) &&& 252645135).toUInt32 >>> ((8 : Int32).toUInt32 &&& Int32.toUInt32 31)).toInt32)).toUInt32 >>> ((16 : Int32).toUInt32 &&& Int32.toUInt32 31)).toInt32)) &&& 63)], h) [] rfl trivial ?_
  exact mm_ri rfl (mm_at ok_In_bitCount (i := 41) rfl).1 ⟨Nat.le_refl _, Nat.le_refl _⟩ ⟨congrArg some (congrArg Value.int (rfl)), rfl⟩

def f_Mo_in (x y z : Int64) : Int32 := (if (lg_cmp x y) < 0 then 0 else (if 0 < (lg_cmp x z) then 0 else 1))
theorem zo_Mo_in (x y z : Int64) : f_Mo_in x y z = 0 ∨ f_Mo_in x y z = 1 := by
  unfold f_Mo_in
  repeat' split
  all_goals first | exact Or.inl rfl | exact Or.inr rfl
theorem ct_Mo_in (h : mm_Hp) (x y z : Int64) : mm_Ct 1 M_Mo_in [.long x, .long y, .long z] h 0 0 (fun v h' => v = some (.int (f_Mo_in x y z)) ∧ h' = h) := by
  refine mm_start pl_Mo (Nat.le_of_ble_eq_true rfl) ?_
  refine mm_I ok_Mo_in 0 3 3 [some (.long x), none, some (.long y), none, some (.long z), none] [.int (lg_cmp x y)] h [] rfl trivial rfl rfl (fun h1 => ?_) (fun h1 => ?_)
  · refine mm_B ok_Mo_in 10 1 (18, [some (.long x), none, some (.long y), none, some (.long z), none], [.int 0], h) [] rfl trivial ?_
    exact mm_rz rfl (mm_at ok_Mo_in (i := 11) rfl).1 ⟨Nat.le_refl _, Nat.le_refl _⟩ (Or.inl rfl) ⟨congrArg some (congrArg Value.int (by simp only [f_Mo_in, if_pos h1])), rfl⟩
  · refine mm_I ok_Mo_in 4 3 10 [some (.long x), none, some (.long y), none, some (.long z), none] [.int (lg_cmp x z)] h [] rfl trivial rfl rfl (fun h2 => ?_) (fun h2 => ?_)
    · refine mm_B ok_Mo_in 10 1 (18, [some (.long x), none, some (.long y), none, some (.long z), none], [.int 0], h) [] rfl trivial ?_
      exact mm_rz rfl (mm_at ok_Mo_in (i := 11) rfl).1 ⟨Nat.le_refl _, Nat.le_refl _⟩ (Or.inl rfl) ⟨congrArg some (congrArg Value.int (by simp only [f_Mo_in, if_neg h1, if_pos h2])), rfl⟩
    · refine mm_B ok_Mo_in 8 2 (18, [some (.long x), none, some (.long y), none, some (.long z), none], [.int 1], h) [] rfl trivial ?_
      exact mm_rz rfl (mm_at ok_Mo_in (i := 11) rfl).1 ⟨Nat.le_refl _, Nat.le_refl _⟩ (Or.inr rfl) ⟨congrArg some (congrArg Value.int (by simp only [f_Mo_in, if_neg h1, if_neg h2])), rfl⟩

def f_Mo_within (x y z : Int32) : Int32 := (if y ≤ x then (if x ≤ z then x else z) else y)
theorem ct_Mo_within (h : mm_Hp) (x y z : Int32) : mm_Ct 1 M_Mo_within [.int x, .int y, .int z] h 0 0 (fun v h' => v = some (.int (f_Mo_within x y z)) ∧ h' = h) := by
  refine mm_start pl_Mo (Nat.le_of_ble_eq_true rfl) ?_
  refine mm_I ok_Mo_within 0 2 2 [some (.int x), some (.int y), some (.int z)] [.int y, .int x] h [] rfl trivial rfl rfl (fun h1 => ?_) (fun h1 => ?_)
  · refine mm_I ok_Mo_within 5 2 11 [some (.int x), some (.int y), some (.int z)] [.int z, .int x] h [] rfl trivial rfl rfl (fun h2 => ?_) (fun h2 => ?_)
    · refine mm_B ok_Mo_within 10 1 (19, [some (.int x), some (.int y), some (.int z)], [.int x], h) [] rfl trivial ?_
      exact mm_ri rfl (mm_at ok_Mo_within (i := 11) rfl).1 ⟨Nat.le_refl _, Nat.le_refl _⟩ ⟨congrArg some (congrArg Value.int (by simp only [f_Mo_within, if_pos h1, if_pos h2])), rfl⟩
    · refine mm_B ok_Mo_within 8 2 (19, [some (.int x), some (.int y), some (.int z)], [.int z], h) [] rfl trivial ?_
      exact mm_ri rfl (mm_at ok_Mo_within (i := 11) rfl).1 ⟨Nat.le_refl _, Nat.le_refl _⟩ ⟨congrArg some (congrArg Value.int (by simp only [f_Mo_within, if_pos h1, if_neg h2])), rfl⟩
  · refine mm_B ok_Mo_within 3 2 (19, [some (.int x), some (.int y), some (.int z)], [.int y], h) [] rfl trivial ?_
    exact mm_ri rfl (mm_at ok_Mo_within (i := 11) rfl).1 ⟨Nat.le_refl _, Nat.le_refl _⟩ ⟨congrArg some (congrArg Value.int (by simp only [f_Mo_within, if_neg h1])), rfl⟩

def f_Mo_over (x : Int32) : Int32 := (if x = 0 then (-1) else (if x = 1 then 0 else (if x = 2 then 0 else (if x = 4 then 2 else 1))))
theorem ct_Mo_over (h : mm_Hp) (x : Int32) : mm_Ct 1 M_Mo_over [.int x] h 0 0 (fun v h' => v = some (.int (f_Mo_over x)) ∧ h' = h) := by
  refine mm_start pl_Mo (Nat.le_of_ble_eq_true rfl) ?_
  refine mm_I ok_Mo_over 0 1 1 [some (.int x)] [.int x] h [] rfl trivial rfl rfl (fun h1 => ?_) (fun h1 => ?_)
  · refine mm_I ok_Mo_over 4 2 10 [some (.int x)] [.int 1, .int x] h [] rfl trivial rfl rfl (fun h2 => ?_) (fun h2 => ?_)
    · refine mm_B ok_Mo_over 10 2 (32, [some (.int x)], [.int 0], h) [] rfl trivial ?_
      exact mm_ri rfl (mm_at ok_Mo_over (i := 18) rfl).1 ⟨Nat.le_refl _, Nat.le_refl _⟩ ⟨congrArg some (congrArg Value.int (by simp only [f_Mo_over, if_neg h1, if_pos h2])), rfl⟩
    · refine mm_I ok_Mo_over 7 2 15 [some (.int x)] [.int 2, .int x] h [] rfl trivial rfl rfl (fun h3 => ?_) (fun h3 => ?_)
      · refine mm_I ok_Mo_over 12 2 24 [some (.int x)] [.int 4, .int x] h [] rfl trivial rfl rfl (fun h4 => ?_) (fun h4 => ?_)
        · refine mm_B ok_Mo_over 17 1 (32, [some (.int x)], [.int 1], h) [] rfl trivial ?_
          exact mm_ri rfl (mm_at ok_Mo_over (i := 18) rfl).1 ⟨Nat.le_refl _, Nat.le_refl _⟩ ⟨congrArg some (congrArg Value.int (by simp only [f_Mo_over, if_neg h1, if_neg h2, if_neg h3, if_neg h4])), rfl⟩
        · refine mm_B ok_Mo_over 15 2 (32, [some (.int x)], [.int 2], h) [] rfl trivial ?_
          exact mm_ri rfl (mm_at ok_Mo_over (i := 18) rfl).1 ⟨Nat.le_refl _, Nat.le_refl _⟩ ⟨congrArg some (congrArg Value.int (by simp only [f_Mo_over, if_neg h1, if_neg h2, if_neg h3, if_pos h4])), rfl⟩
      · refine mm_B ok_Mo_over 10 2 (32, [some (.int x)], [.int 0], h) [] rfl trivial ?_
        exact mm_ri rfl (mm_at ok_Mo_over (i := 18) rfl).1 ⟨Nat.le_refl _, Nat.le_refl _⟩ ⟨congrArg some (congrArg Value.int (by simp only [f_Mo_over, if_neg h1, if_neg h2, if_pos h3])), rfl⟩
  · refine mm_B ok_Mo_over 2 2 (32, [some (.int x)], [.int (-1)], h) [] rfl trivial ?_
    exact mm_ri rfl (mm_at ok_Mo_over (i := 18) rfl).1 ⟨Nat.le_refl _, Nat.le_refl _⟩ ⟨congrArg some (congrArg Value.int (by simp only [f_Mo_over, if_pos h1])), rfl⟩

def f_Mo_isSheet (x : Int32) : Int32 := (f_Mo_in ((x).toInt64) 0 3)
theorem zo_Mo_isSheet (x : Int32) : f_Mo_isSheet x = 0 ∨ f_Mo_isSheet x = 1 := by
  unfold f_Mo_isSheet
  repeat' split
  all_goals first | exact (zo_Mo_in ..) | exact Or.inl rfl | exact Or.inr rfl
theorem ct_Mo_isSheet (h : mm_Hp) (x : Int32) : mm_Ct 2 M_Mo_isSheet [.int x] h 0 0 (fun v h' => v = some (.int (f_Mo_isSheet x)) ∧ h' = h) := by
  refine mm_start pl_Mo (Nat.le_of_ble_eq_true rfl) ?_
  refine mm_B ok_Mo_isSheet 0 4 (6, [some (.int x)], [.long 3, .long 0, .long (x).toInt64], h) [] rfl trivial ?_
  refine mm_cS (as := [.long (x).toInt64, .long 0, .long 3]) (st := []) cw_Mo_in lk_Mo_100 sx_Mo_in (mm_at ok_Mo_isSheet (i := 4) rfl).1 (ct_Mo_in h ((x).toInt64) 0 3) (by decide) ⟨by omega, by omega⟩ (Nat.le_of_ble_eq_true rfl) (mm_vs_b (b := 0) rfl (Nat.zero_le _)) (fun v h' hqq => ?_)
  obtain ⟨rfl, hqe⟩ := hqq; rw [hqe]
  exact mm_rz rfl (mm_at ok_Mo_isSheet (i := 5) rfl).1 ⟨Nat.le_refl _, Nat.le_refl _⟩ (zo_Mo_in ..) ⟨congrArg some (congrArg Value.int (rfl)), rfl⟩

def f_Sc_isLesson (g : Nat → Nat → Int32) (x : Int32) : Int32 := (if x < 0 then 0 else (if (g 2 0) ≤ x then 0 else 1))
theorem zo_Sc_isLesson (g : Nat → Nat → Int32) (x : Int32) : f_Sc_isLesson g x = 0 ∨ f_Sc_isLesson g x = 1 := by
  unfold f_Sc_isLesson
  repeat' split
  all_goals first | exact Or.inl rfl | exact Or.inr rfl
theorem ct_Sc_isLesson (dy : List mm_Sh) (g : Nat → Nat → Int32) (r : (Nat → Nat → Int64) × Nat × (Nat → Int32)) (x : Int32) : mm_Ct 1 M_Sc_isLesson [.ref 0, .int x] (hp_SH ++ dy, g, r) 0 0 (fun v h' => v = some (.int (f_Sc_isLesson g x)) ∧ h' = (hp_SH ++ dy, g, r)) := by
  refine mm_start pl_Sc (Nat.le_of_ble_eq_true rfl) ?_
  refine mm_I ok_Sc_isLesson 0 1 1 [some (.ref 0), some (.int x)] [.int x] (hp_SH ++ dy, g, r) [] rfl trivial rfl rfl (fun h1 => ?_) (fun h1 => ?_)
  · refine mm_B ok_Sc_isLesson 10 1 (23, [some (.ref 0), some (.int x)], [.int 0], (hp_SH ++ dy, g, r)) [] rfl trivial ?_
    exact mm_rz rfl (mm_at ok_Sc_isLesson (i := 11) rfl).1 ⟨Nat.le_refl _, Nat.le_refl _⟩ (Or.inl rfl) ⟨congrArg some (congrArg Value.int (by simp only [f_Sc_isLesson, if_pos h1])), rfl⟩
  · refine mm_I ok_Sc_isLesson 2 5 15 [some (.ref 0), some (.int x)] [.int (g 2 0), .int x] (hp_SH ++ dy, g, r) [] rfl trivial rfl rfl (fun h2 => ?_) (fun h2 => ?_)
    · refine mm_B ok_Sc_isLesson 10 1 (23, [some (.ref 0), some (.int x)], [.int 0], (hp_SH ++ dy, g, r)) [] rfl trivial ?_
      exact mm_rz rfl (mm_at ok_Sc_isLesson (i := 11) rfl).1 ⟨Nat.le_refl _, Nat.le_refl _⟩ (Or.inl rfl) ⟨congrArg some (congrArg Value.int (by simp only [f_Sc_isLesson, if_neg h1, if_pos h2])), rfl⟩
    · refine mm_B ok_Sc_isLesson 8 2 (23, [some (.ref 0), some (.int x)], [.int 1], (hp_SH ++ dy, g, r)) [] rfl trivial ?_
      exact mm_rz rfl (mm_at ok_Sc_isLesson (i := 11) rfl).1 ⟨Nat.le_refl _, Nat.le_refl _⟩ (Or.inr rfl) ⟨congrArg some (congrArg Value.int (by simp only [f_Sc_isLesson, if_neg h1, if_neg h2])), rfl⟩

def f_Sc_isChild (g : Nat → Nat → Int32) (x : Int32) : Int32 := (if x < 0 then 0 else (if (g 2 1) ≤ x then 0 else 1))
theorem zo_Sc_isChild (g : Nat → Nat → Int32) (x : Int32) : f_Sc_isChild g x = 0 ∨ f_Sc_isChild g x = 1 := by
  unfold f_Sc_isChild
  repeat' split
  all_goals first | exact Or.inl rfl | exact Or.inr rfl
theorem ct_Sc_isChild (dy : List mm_Sh) (g : Nat → Nat → Int32) (r : (Nat → Nat → Int64) × Nat × (Nat → Int32)) (x : Int32) : mm_Ct 1 M_Sc_isChild [.ref 0, .int x] (hp_SH ++ dy, g, r) 0 0 (fun v h' => v = some (.int (f_Sc_isChild g x)) ∧ h' = (hp_SH ++ dy, g, r)) := by
  refine mm_start pl_Sc (Nat.le_of_ble_eq_true rfl) ?_
  refine mm_I ok_Sc_isChild 0 1 1 [some (.ref 0), some (.int x)] [.int x] (hp_SH ++ dy, g, r) [] rfl trivial rfl rfl (fun h1 => ?_) (fun h1 => ?_)
  · refine mm_B ok_Sc_isChild 10 1 (23, [some (.ref 0), some (.int x)], [.int 0], (hp_SH ++ dy, g, r)) [] rfl trivial ?_
    exact mm_rz rfl (mm_at ok_Sc_isChild (i := 11) rfl).1 ⟨Nat.le_refl _, Nat.le_refl _⟩ (Or.inl rfl) ⟨congrArg some (congrArg Value.int (by simp only [f_Sc_isChild, if_pos h1])), rfl⟩
  · refine mm_I ok_Sc_isChild 2 5 15 [some (.ref 0), some (.int x)] [.int (g 2 1), .int x] (hp_SH ++ dy, g, r) [] rfl trivial rfl rfl (fun h2 => ?_) (fun h2 => ?_)
    · refine mm_B ok_Sc_isChild 10 1 (23, [some (.ref 0), some (.int x)], [.int 0], (hp_SH ++ dy, g, r)) [] rfl trivial ?_
      exact mm_rz rfl (mm_at ok_Sc_isChild (i := 11) rfl).1 ⟨Nat.le_refl _, Nat.le_refl _⟩ (Or.inl rfl) ⟨congrArg some (congrArg Value.int (by simp only [f_Sc_isChild, if_neg h1, if_pos h2])), rfl⟩
    · refine mm_B ok_Sc_isChild 8 2 (23, [some (.ref 0), some (.int x)], [.int 1], (hp_SH ++ dy, g, r)) [] rfl trivial ?_
      exact mm_rz rfl (mm_at ok_Sc_isChild (i := 11) rfl).1 ⟨Nat.le_refl _, Nat.le_refl _⟩ (Or.inr rfl) ⟨congrArg some (congrArg Value.int (by simp only [f_Sc_isChild, if_neg h1, if_neg h2])), rfl⟩

def f_Mo_isLesson (g : Nat → Nat → Int32) (x : Int32) : Int32 := (f_Mo_in ((x).toInt64) 0 ((((g 52 10) - 1)).toInt64))
theorem zo_Mo_isLesson (g : Nat → Nat → Int32) (x : Int32) : f_Mo_isLesson g x = 0 ∨ f_Mo_isLesson g x = 1 := by
  unfold f_Mo_isLesson
  repeat' split
  all_goals first | exact (zo_Mo_in ..) | exact Or.inl rfl | exact Or.inr rfl
theorem ct_Mo_isLesson (dy : List mm_Sh) (g : Nat → Nat → Int32) (r : (Nat → Nat → Int64) × Nat × (Nat → Int32)) (x : Int32) : mm_Ct 2 M_Mo_isLesson [.ref 52, .int x] (hp_SH ++ dy, g, r) 0 0 (fun v h' => v = some (.int (f_Mo_isLesson g x)) ∧ h' = (hp_SH ++ dy, g, r)) := by
  refine mm_start pl_Mo (Nat.le_of_ble_eq_true rfl) ?_
  refine mm_B ok_Mo_isLesson 0 8 (10, [some (.ref 52), some (.int x)], [.long (((g 52 10) - 1)).toInt64, .long 0, .long (x).toInt64], (hp_SH ++ dy, g, r)) [] rfl trivial ?_
  refine mm_cS (as := [.long (x).toInt64, .long 0, .long (((g 52 10) - 1)).toInt64]) (st := []) cw_Mo_in lk_Mo_100 sx_Mo_in (mm_at ok_Mo_isLesson (i := 8) rfl).1 (ct_Mo_in (hp_SH ++ dy, g, r) ((x).toInt64) 0 ((((g 52 10) - 1)).toInt64)) (by decide) ⟨by omega, by omega⟩ (Nat.le_of_ble_eq_true rfl) (mm_vs_b (b := 77) rfl (hp_len dy)) (fun v h' hqq => ?_)
  obtain ⟨rfl, hqe⟩ := hqq; rw [hqe]
  exact mm_rz rfl (mm_at ok_Mo_isLesson (i := 9) rfl).1 ⟨Nat.le_refl _, Nat.le_refl _⟩ (zo_Mo_in ..) ⟨congrArg some (congrArg Value.int (rfl)), rfl⟩

def f_Mo_isChild (g : Nat → Nat → Int32) (x : Int32) : Int32 := (f_Mo_in ((x).toInt64) 0 ((((g 52 14) - 1)).toInt64))
theorem zo_Mo_isChild (g : Nat → Nat → Int32) (x : Int32) : f_Mo_isChild g x = 0 ∨ f_Mo_isChild g x = 1 := by
  unfold f_Mo_isChild
  repeat' split
  all_goals first | exact (zo_Mo_in ..) | exact Or.inl rfl | exact Or.inr rfl
theorem ct_Mo_isChild (dy : List mm_Sh) (g : Nat → Nat → Int32) (r : (Nat → Nat → Int64) × Nat × (Nat → Int32)) (x : Int32) : mm_Ct 2 M_Mo_isChild [.ref 52, .int x] (hp_SH ++ dy, g, r) 0 0 (fun v h' => v = some (.int (f_Mo_isChild g x)) ∧ h' = (hp_SH ++ dy, g, r)) := by
  refine mm_start pl_Mo (Nat.le_of_ble_eq_true rfl) ?_
  refine mm_B ok_Mo_isChild 0 8 (10, [some (.ref 52), some (.int x)], [.long (((g 52 14) - 1)).toInt64, .long 0, .long (x).toInt64], (hp_SH ++ dy, g, r)) [] rfl trivial ?_
  refine mm_cS (as := [.long (x).toInt64, .long 0, .long (((g 52 14) - 1)).toInt64]) (st := []) cw_Mo_in lk_Mo_100 sx_Mo_in (mm_at ok_Mo_isChild (i := 8) rfl).1 (ct_Mo_in (hp_SH ++ dy, g, r) ((x).toInt64) 0 ((((g 52 14) - 1)).toInt64)) (by decide) ⟨by omega, by omega⟩ (Nat.le_of_ble_eq_true rfl) (mm_vs_b (b := 77) rfl (hp_len dy)) (fun v h' hqq => ?_)
  obtain ⟨rfl, hqe⟩ := hqq; rw [hqe]
  exact mm_rz rfl (mm_at ok_Mo_isChild (i := 9) rfl).1 ⟨Nat.le_refl _, Nat.le_refl _⟩ (zo_Mo_in ..) ⟨congrArg some (congrArg Value.int (rfl)), rfl⟩

