/-! ===== the rule: signs are worked out ===== -/
def jn_ (s a b : Int32) : Int32 := if s = -7 then (if a = 0 ∧ b = 0 then 0 else 1) else if s = -8 then (if a = 0 ∨ b = 0 then 0 else 1) else if s = -10 then (if b ≤ a then 0 else 1) else if s = -11 then (if a = b then 1 else 0) else if s = -12 then a + b else if s = -13 then a - b else a * b
theorem ct_Sp_joined (h : mm_Hp) (s a b : Int32) : mm_Ct 1 M_Sp_joined [.int s, .int a, .int b] h 0 0 (fun v h' => v = some (.int (jn_ s a b)) ∧ h' = h) := by
  refine mm_start pl_Sp (Nat.le_of_ble_eq_true rfl) ?_
  refine mm_B ok_Sp_joined 0 1 (1, [some (.int s), some (.int a), some (.int b)], [.int s], h) [] rfl trivial ?_
  by_cases s7 : s = -7
  · refine mm_sw (tgt := 44) (mm_at ok_Sp_joined (i := 1) rfl).1 (by rw [s7]; exact Or.inr ⟨by decide, _, rfl, by decide⟩) ?_
    refine mm_I ok_Sp_joined 2 1 45 [some (.int s), some (.int a), some (.int b)] [.int a] h [] rfl trivial rfl rfl (fun c1 => ?_) (fun c1 => ?_)
    · refine mm_B ok_Sp_joined 6 2 (57, [some (.int s), some (.int a), some (.int b)], [.int 1], h) [] rfl trivial ?_
      exact mm_ri rfl (mm_at ok_Sp_joined (i := 9) rfl).1 ⟨Nat.le_refl _, Nat.le_refl _⟩ (⟨congrArg some (congrArg Value.int (by rw [jn_, if_pos s7]; simp [c1])), rfl⟩)
    · refine mm_I ok_Sp_joined 4 1 49 [some (.int s), some (.int a), some (.int b)] [.int b] h [] rfl trivial rfl rfl (fun c2 => ?_) (fun c2 => ?_)
      · refine mm_B ok_Sp_joined 8 1 (57, [some (.int s), some (.int a), some (.int b)], [.int 0], h) [] rfl trivial ?_
        exact mm_ri rfl (mm_at ok_Sp_joined (i := 9) rfl).1 ⟨Nat.le_refl _, Nat.le_refl _⟩ (⟨congrArg some (congrArg Value.int (by rw [jn_, if_pos s7]; simp [c1, c2])), rfl⟩)
      · refine mm_B ok_Sp_joined 6 2 (57, [some (.int s), some (.int a), some (.int b)], [.int 1], h) [] rfl trivial ?_
        exact mm_ri rfl (mm_at ok_Sp_joined (i := 9) rfl).1 ⟨Nat.le_refl _, Nat.le_refl _⟩ (⟨congrArg some (congrArg Value.int (by rw [jn_, if_pos s7]; simp [c1, c2])), rfl⟩)
  by_cases s8 : s = -8
  · refine mm_sw (tgt := 58) (mm_at ok_Sp_joined (i := 1) rfl).1 (by rw [s8]; exact Or.inr ⟨by decide, _, rfl, by decide⟩) ?_
    refine mm_I ok_Sp_joined 10 1 59 [some (.int s), some (.int a), some (.int b)] [.int a] h [] rfl trivial rfl rfl (fun c1 => ?_) (fun c1 => ?_)
    · refine mm_B ok_Sp_joined 16 1 (71, [some (.int s), some (.int a), some (.int b)], [.int 0], h) [] rfl trivial ?_
      exact mm_ri rfl (mm_at ok_Sp_joined (i := 17) rfl).1 ⟨Nat.le_refl _, Nat.le_refl _⟩ (⟨congrArg some (congrArg Value.int (by rw [jn_, if_neg s7, if_pos s8]; simp [c1])), rfl⟩)
    · refine mm_I ok_Sp_joined 12 1 63 [some (.int s), some (.int a), some (.int b)] [.int b] h [] rfl trivial rfl rfl (fun c2 => ?_) (fun c2 => ?_)
      · refine mm_B ok_Sp_joined 16 1 (71, [some (.int s), some (.int a), some (.int b)], [.int 0], h) [] rfl trivial ?_
        exact mm_ri rfl (mm_at ok_Sp_joined (i := 17) rfl).1 ⟨Nat.le_refl _, Nat.le_refl _⟩ (⟨congrArg some (congrArg Value.int (by rw [jn_, if_neg s7, if_pos s8]; simp [c1, c2])), rfl⟩)
      · refine mm_B ok_Sp_joined 14 2 (71, [some (.int s), some (.int a), some (.int b)], [.int 1], h) [] rfl trivial ?_
        exact mm_ri rfl (mm_at ok_Sp_joined (i := 17) rfl).1 ⟨Nat.le_refl _, Nat.le_refl _⟩ (⟨congrArg some (congrArg Value.int (by rw [jn_, if_neg s7, if_pos s8]; simp [c1, c2])), rfl⟩)
  by_cases s10 : s = -10
  · refine mm_sw (tgt := 72) (mm_at ok_Sp_joined (i := 1) rfl).1 (by rw [s10]; exact Or.inr ⟨by decide, _, rfl, by decide⟩) ?_
    refine mm_I ok_Sp_joined 18 2 74 [some (.int s), some (.int a), some (.int b)] [.int b, .int a] h [] rfl trivial rfl rfl (fun c1 => ?_) (fun c1 => ?_)
    · refine mm_B ok_Sp_joined 23 1 (82, [some (.int s), some (.int a), some (.int b)], [.int 0], h) [] rfl trivial ?_
      exact mm_ri rfl (mm_at ok_Sp_joined (i := 24) rfl).1 ⟨Nat.le_refl _, Nat.le_refl _⟩ (⟨congrArg some (congrArg Value.int (by rw [jn_, if_neg s7, if_neg s8, if_pos s10]; simp [c1])), rfl⟩)
    · refine mm_B ok_Sp_joined 21 2 (82, [some (.int s), some (.int a), some (.int b)], [.int 1], h) [] rfl trivial ?_
      exact mm_ri rfl (mm_at ok_Sp_joined (i := 24) rfl).1 ⟨Nat.le_refl _, Nat.le_refl _⟩ (⟨congrArg some (congrArg Value.int (by rw [jn_, if_neg s7, if_neg s8, if_pos s10]; simp [c1])), rfl⟩)
  by_cases s11 : s = -11
  · refine mm_sw (tgt := 83) (mm_at ok_Sp_joined (i := 1) rfl).1 (by rw [s11]; exact Or.inr ⟨by decide, _, rfl, by decide⟩) ?_
    refine mm_I ok_Sp_joined 25 2 85 [some (.int s), some (.int a), some (.int b)] [.int b, .int a] h [] rfl trivial rfl rfl (fun c1 => ?_) (fun c1 => ?_)
    · refine mm_B ok_Sp_joined 30 1 (93, [some (.int s), some (.int a), some (.int b)], [.int 0], h) [] rfl trivial ?_
      exact mm_ri rfl (mm_at ok_Sp_joined (i := 31) rfl).1 ⟨Nat.le_refl _, Nat.le_refl _⟩ (⟨congrArg some (congrArg Value.int (by rw [jn_, if_neg s7, if_neg s8, if_neg s10, if_pos s11]; simp [c1])), rfl⟩)
    · refine mm_B ok_Sp_joined 28 2 (93, [some (.int s), some (.int a), some (.int b)], [.int 1], h) [] rfl trivial ?_
      exact mm_ri rfl (mm_at ok_Sp_joined (i := 31) rfl).1 ⟨Nat.le_refl _, Nat.le_refl _⟩ (⟨congrArg some (congrArg Value.int (by rw [jn_, if_neg s7, if_neg s8, if_neg s10, if_pos s11]; simp [c1])), rfl⟩)
  by_cases s12 : s = -12
  · refine mm_sw (tgt := 94) (mm_at ok_Sp_joined (i := 1) rfl).1 (by rw [s12]; exact Or.inr ⟨by decide, _, rfl, by decide⟩) ?_
    refine mm_B ok_Sp_joined 32 3 (97, [some (.int s), some (.int a), some (.int b)], [.int (a + b)], h) [] rfl trivial ?_
    exact mm_ri rfl (mm_at ok_Sp_joined (i := 35) rfl).1 ⟨Nat.le_refl _, Nat.le_refl _⟩ (⟨congrArg some (congrArg Value.int (by rw [jn_, if_neg s7, if_neg s8, if_neg s10, if_neg s11, if_pos s12])), rfl⟩)
  by_cases s13 : s = -13
  · refine mm_sw (tgt := 98) (mm_at ok_Sp_joined (i := 1) rfl).1 (by rw [s13]; exact Or.inr ⟨by decide, _, rfl, by decide⟩) ?_
    refine mm_B ok_Sp_joined 36 3 (101, [some (.int s), some (.int a), some (.int b)], [.int (a - b)], h) [] rfl trivial ?_
    exact mm_ri rfl (mm_at ok_Sp_joined (i := 39) rfl).1 ⟨Nat.le_refl _, Nat.le_refl _⟩ (⟨congrArg some (congrArg Value.int (by rw [jn_, if_neg s7, if_neg s8, if_neg s10, if_neg s11, if_neg s12, if_pos s13])), rfl⟩)
  have hs : (s.toInt < -13 ∨ -7 < s.toInt) ∨ s.toInt = -9 := by
    have n7 : s.toInt ≠ -7 := fun e => s7 (Int32.toInt_inj.mp e)
    have n8 : s.toInt ≠ -8 := fun e => s8 (Int32.toInt_inj.mp e)
    have n10 : s.toInt ≠ -10 := fun e => s10 (Int32.toInt_inj.mp e)
    have n11 : s.toInt ≠ -11 := fun e => s11 (Int32.toInt_inj.mp e)
    have n12 : s.toInt ≠ -12 := fun e => s12 (Int32.toInt_inj.mp e)
    have n13 : s.toInt ≠ -13 := fun e => s13 (Int32.toInt_inj.mp e)
    omega
  refine mm_sw (tgt := 102) (mm_at ok_Sp_joined (i := 1) rfl).1 (by rcases hs with hs | hs; exact Or.inl ⟨hs, by decide⟩; rw [hs]; exact Or.inr ⟨by decide, _, rfl, by decide⟩) ?_
  refine mm_B ok_Sp_joined 40 3 (105, [some (.int s), some (.int a), some (.int b)], [.int (a * b)], h) [] rfl trivial ?_
  exact mm_ri rfl (mm_at ok_Sp_joined (i := 43) rfl).1 ⟨Nat.le_refl _, Nat.le_refl _⟩ (⟨congrArg some (congrArg Value.int (by rw [jn_, if_neg s7, if_neg s8, if_neg s10, if_neg s11, if_neg s12, if_neg s13])), rfl⟩)
theorem ct_Sp_stage (dy : List mm_Sh) (g : Nat → Nat → Int32) (r : (Nat → Nat → Int64) × Nat × (Nat → Int32)) (p x2 x3 x4 x5 : Int32) (hc : vp_in p 6) : mm_Ct 1 M_Sp_stage [.ref 1, .int p, .int x2, .int x3, .int x4, .int x5] (hp_SH ++ dy, g, r) 0 0 (fun v h' => v = none ∧ ∃ g', h' = (hp_SH ++ dy, g', r) ∧ fr_ f1_ g g' ∧ (g' 13 0 = x2 ∧ g' 13 1 = p ∧ g' 13 2 = x3 ∧ g' 13 3 = x4 ∧ g' 13 4 = g 8 p.toNatClampNeg ∧ g' 13 5 = x5)) := by
  refine mm_start pl_Sp (Nat.le_of_ble_eq_true rfl) ?_
  refine mm_B ok_Sp_stage 0 34 (52, [some (.ref 1), some (.int p), some (.int x2), some (.int x3), some (.int x4), some (.int x5)], [], (hp_SH ++ dy, mm_up (mm_up (mm_up (mm_up (mm_up (mm_up g 13 0 x2) 13 1 p) 13 2 x3) 13 3 x4) 13 4 (g 8 p.toNatClampNeg)) 13 5 x5, r)) [vp_in 0 6, vp_in 1 6, vp_in 2 6, vp_in 3 6, vp_in p 6, vp_in 4 6, vp_in 5 6] rfl (show (vp_in 0 6) ∧ (vp_in 1 6) ∧ (vp_in 2 6) ∧ (vp_in 3 6) ∧ (vp_in p 6) ∧ (vp_in 4 6) ∧ (vp_in 5 6) from ⟨(by first | exact mm_vi rfl | assumption | decide), (by first | exact mm_vi rfl | assumption | decide), (by first | exact mm_vi rfl | assumption | decide), (by first | exact mm_vi rfl | assumption | decide), (by first | exact mm_vi rfl | assumption | decide), (by first | exact mm_vi rfl | assumption | decide), (by first | exact mm_vi rfl | assumption | decide)⟩) ?_
  exact mm_r0 rfl (mm_at ok_Sp_stage (i := 34) rfl).1 ⟨Nat.le_refl _, Nat.le_refl _⟩ (⟨rfl, _, rfl, ((((((fr_.rf.up _ rfl).up _ rfl).up _ rfl).up _ rfl).up _ rfl).up _ rfl), rfl, rfl, rfl, rfl, rfl, rfl⟩)

