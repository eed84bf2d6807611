/-! ===== the model: times, keeps, pointsOf, hasBy, bitsOf ===== -/
def f_Mo_times (g : Nat → Nat → Int32) (l : Int32) : Int32 := (if (g 56 l.toNatClampNeg) = 1 then (if (g 56 l.toNatClampNeg) = 3 then ((1 + ((g 57 l.toNatClampNeg) - (g 57 l.toNatClampNeg) / 3 * 3)) + 1) else ((1 + ((g 57 l.toNatClampNeg) - (g 57 l.toNatClampNeg) / 3 * 3)) + 0)) else (if (g 56 l.toNatClampNeg) = 3 then (if (g 56 l.toNatClampNeg) = 3 then ((1 + ((g 57 l.toNatClampNeg) - (g 57 l.toNatClampNeg) / 3 * 3)) + 1) else ((1 + ((g 57 l.toNatClampNeg) - (g 57 l.toNatClampNeg) / 3 * 3)) + 0)) else (if (g 56 l.toNatClampNeg) = 5 then (if (g 56 l.toNatClampNeg) = 3 then ((1 + ((g 57 l.toNatClampNeg) - (g 57 l.toNatClampNeg) / 3 * 3)) + 1) else ((1 + ((g 57 l.toNatClampNeg) - (g 57 l.toNatClampNeg) / 3 * 3)) + 0)) else (if (g 56 l.toNatClampNeg) = 4 then (1 + ((g 57 l.toNatClampNeg) - (g 57 l.toNatClampNeg) / 2 * 2)) else 1))))
theorem ct_Mo_times (dy : List mm_Sh) (g : Nat → Nat → Int32) (r : (Nat → Nat → Int64) × Nat × (Nat → Int32)) (l : Int32) (hl : vp_in l 4) : mm_Ct 1 M_Mo_times [.ref 52, .int l] (hp_SH ++ dy, g, r) 0 0 (fun v h' => v = some (.int (f_Mo_times g l)) ∧ h' = (hp_SH ++ dy, g, r)) := by
  refine mm_start pl_Mo (Nat.le_of_ble_eq_true rfl) ?_
  refine mm_I ok_Mo_times 0 7 9 [some (.ref 52), some (.int l), some (.int (g 56 l.toNatClampNeg))] [.int 1, .int (g 56 l.toNatClampNeg)] (hp_SH ++ dy, g, r) [vp_in l 4] rfl (show vp_in l 4 from (by first | exact mm_vi rfl | assumption | decide)) rfl rfl (fun h1 => ?_) (fun h1 => ?_)
  · refine mm_I ok_Mo_times 14 10 34 [some (.ref 52), some (.int l), some (.int (g 56 l.toNatClampNeg))] [.int 3, .int (g 56 l.toNatClampNeg), .int (1 + ((g 57 l.toNatClampNeg) - (g 57 l.toNatClampNeg) / 3 * 3))] (hp_SH ++ dy, g, r) [vp_in l 4, ¬ (3 : Int32) = 0] rfl (show (vp_in l 4) ∧ (¬ (3 : Int32) = 0) from ⟨(by first | exact mm_vi rfl | assumption | decide), (by first | exact mm_vi rfl | assumption | decide)⟩) rfl rfl (fun h2 => ?_) (fun h2 => ?_)
    · refine mm_B ok_Mo_times 27 2 (43, [some (.ref 52), some (.int l), some (.int (g 56 l.toNatClampNeg))], [.int ((1 + ((g 57 l.toNatClampNeg) - (g 57 l.toNatClampNeg) / 3 * 3)) + 0)], (hp_SH ++ dy, g, r)) [] rfl trivial ?_
      exact mm_ri rfl (mm_at ok_Mo_times (i := 29) rfl).1 ⟨Nat.le_refl _, Nat.le_refl _⟩ ⟨congrArg some (congrArg Value.int (by first | (simp only [f_Mo_times, if_pos h1, if_neg h2]; done) | (exfalso; contradiction) | (exfalso; simp_all; done))), rfl⟩
    · refine mm_B ok_Mo_times 25 2 (42, [some (.ref 52), some (.int l), some (.int (g 56 l.toNatClampNeg))], [.int 1, .int (1 + ((g 57 l.toNatClampNeg) - (g 57 l.toNatClampNeg) / 3 * 3))], (hp_SH ++ dy, g, r)) [] rfl trivial ?_
      refine mm_B ok_Mo_times 28 1 (43, [some (.ref 52), some (.int l), some (.int (g 56 l.toNatClampNeg))], [.int ((1 + ((g 57 l.toNatClampNeg) - (g 57 l.toNatClampNeg) / 3 * 3)) + 1)], (hp_SH ++ dy, g, r)) [] rfl trivial ?_
      exact mm_ri rfl (mm_at ok_Mo_times (i := 29) rfl).1 ⟨Nat.le_refl _, Nat.le_refl _⟩ ⟨congrArg some (congrArg Value.int (by first | (simp only [f_Mo_times, if_pos h1, if_pos h2]; done) | (exfalso; contradiction) | (exfalso; simp_all; done))), rfl⟩
  · refine mm_I ok_Mo_times 8 2 14 [some (.ref 52), some (.int l), some (.int (g 56 l.toNatClampNeg))] [.int 3, .int (g 56 l.toNatClampNeg)] (hp_SH ++ dy, g, r) [] rfl trivial rfl rfl (fun h3 => ?_) (fun h3 => ?_)
    · refine mm_I ok_Mo_times 14 10 34 [some (.ref 52), some (.int l), some (.int (g 56 l.toNatClampNeg))] [.int 3, .int (g 56 l.toNatClampNeg), .int (1 + ((g 57 l.toNatClampNeg) - (g 57 l.toNatClampNeg) / 3 * 3))] (hp_SH ++ dy, g, r) [vp_in l 4, ¬ (3 : Int32) = 0] rfl (show (vp_in l 4) ∧ (¬ (3 : Int32) = 0) from ⟨(by first | exact mm_vi rfl | assumption | decide), (by first | exact mm_vi rfl | assumption | decide)⟩) rfl rfl (fun h4 => ?_) (fun h4 => ?_)
      · refine mm_B ok_Mo_times 27 2 (43, [some (.ref 52), some (.int l), some (.int (g 56 l.toNatClampNeg))], [.int ((1 + ((g 57 l.toNatClampNeg) - (g 57 l.toNatClampNeg) / 3 * 3)) + 0)], (hp_SH ++ dy, g, r)) [] rfl trivial ?_
        exact mm_ri rfl (mm_at ok_Mo_times (i := 29) rfl).1 ⟨Nat.le_refl _, Nat.le_refl _⟩ ⟨congrArg some (congrArg Value.int (by first | (simp only [f_Mo_times, if_neg h1, if_pos h3, if_neg h4]; done) | (exfalso; contradiction) | (exfalso; simp_all; done))), rfl⟩
      · refine mm_B ok_Mo_times 25 2 (42, [some (.ref 52), some (.int l), some (.int (g 56 l.toNatClampNeg))], [.int 1, .int (1 + ((g 57 l.toNatClampNeg) - (g 57 l.toNatClampNeg) / 3 * 3))], (hp_SH ++ dy, g, r)) [] rfl trivial ?_
        refine mm_B ok_Mo_times 28 1 (43, [some (.ref 52), some (.int l), some (.int (g 56 l.toNatClampNeg))], [.int ((1 + ((g 57 l.toNatClampNeg) - (g 57 l.toNatClampNeg) / 3 * 3)) + 1)], (hp_SH ++ dy, g, r)) [] rfl trivial ?_
        exact mm_ri rfl (mm_at ok_Mo_times (i := 29) rfl).1 ⟨Nat.le_refl _, Nat.le_refl _⟩ ⟨congrArg some (congrArg Value.int (by first | (simp only [f_Mo_times, if_neg h1, if_pos h3, if_pos h4]; done) | (exfalso; contradiction) | (exfalso; simp_all; done))), rfl⟩
    · refine mm_I ok_Mo_times 11 2 19 [some (.ref 52), some (.int l), some (.int (g 56 l.toNatClampNeg))] [.int 5, .int (g 56 l.toNatClampNeg)] (hp_SH ++ dy, g, r) [] rfl trivial rfl rfl (fun h5 => ?_) (fun h5 => ?_)
      · refine mm_I ok_Mo_times 30 2 46 [some (.ref 52), some (.int l), some (.int (g 56 l.toNatClampNeg))] [.int 4, .int (g 56 l.toNatClampNeg)] (hp_SH ++ dy, g, r) [] rfl trivial rfl rfl (fun h6 => ?_) (fun h6 => ?_)
        · refine mm_B ok_Mo_times 42 1 (63, [some (.ref 52), some (.int l), some (.int (g 56 l.toNatClampNeg))], [.int 1], (hp_SH ++ dy, g, r)) [] rfl trivial ?_
          exact mm_ri rfl (mm_at ok_Mo_times (i := 43) rfl).1 ⟨Nat.le_refl _, Nat.le_refl _⟩ ⟨congrArg some (congrArg Value.int (by first | (simp only [f_Mo_times, if_neg h1, if_neg h3, if_neg h5, if_neg h6]; done) | (exfalso; contradiction) | (exfalso; simp_all; done))), rfl⟩
        · refine mm_B ok_Mo_times 33 9 (63, [some (.ref 52), some (.int l), some (.int (g 56 l.toNatClampNeg))], [.int (1 + ((g 57 l.toNatClampNeg) - (g 57 l.toNatClampNeg) / 2 * 2))], (hp_SH ++ dy, g, r)) [vp_in l 4, ¬ (2 : Int32) = 0] rfl (show (vp_in l 4) ∧ (¬ (2 : Int32) = 0) from ⟨(by first | exact mm_vi rfl | assumption | decide), (by first | exact mm_vi rfl | assumption | decide)⟩) ?_
          exact mm_ri rfl (mm_at ok_Mo_times (i := 43) rfl).1 ⟨Nat.le_refl _, Nat.le_refl _⟩ ⟨congrArg some (congrArg Value.int (by first | (simp only [f_Mo_times, if_neg h1, if_neg h3, if_neg h5, if_pos h6]; done) | (exfalso; contradiction) | (exfalso; simp_all; done))), rfl⟩
      · refine mm_I ok_Mo_times 14 10 34 [some (.ref 52), some (.int l), some (.int (g 56 l.toNatClampNeg))] [.int 3, .int (g 56 l.toNatClampNeg), .int (1 + ((g 57 l.toNatClampNeg) - (g 57 l.toNatClampNeg) / 3 * 3))] (hp_SH ++ dy, g, r) [vp_in l 4, ¬ (3 : Int32) = 0] rfl (show (vp_in l 4) ∧ (¬ (3 : Int32) = 0) from ⟨(by first | exact mm_vi rfl | assumption | decide), (by first | exact mm_vi rfl | assumption | decide)⟩) rfl rfl (fun h7 => ?_) (fun h7 => ?_)
        · refine mm_B ok_Mo_times 27 2 (43, [some (.ref 52), some (.int l), some (.int (g 56 l.toNatClampNeg))], [.int ((1 + ((g 57 l.toNatClampNeg) - (g 57 l.toNatClampNeg) / 3 * 3)) + 0)], (hp_SH ++ dy, g, r)) [] rfl trivial ?_
          exact mm_ri rfl (mm_at ok_Mo_times (i := 29) rfl).1 ⟨Nat.le_refl _, Nat.le_refl _⟩ ⟨congrArg some (congrArg Value.int (by first | (simp only [f_Mo_times, if_neg h1, if_neg h3, if_pos h5, if_neg h7]; done) | (exfalso; contradiction) | (exfalso; simp_all; done))), rfl⟩
        · refine mm_B ok_Mo_times 25 2 (42, [some (.ref 52), some (.int l), some (.int (g 56 l.toNatClampNeg))], [.int 1, .int (1 + ((g 57 l.toNatClampNeg) - (g 57 l.toNatClampNeg) / 3 * 3))], (hp_SH ++ dy, g, r)) [] rfl trivial ?_
          refine mm_B ok_Mo_times 28 1 (43, [some (.ref 52), some (.int l), some (.int (g 56 l.toNatClampNeg))], [.int ((1 + ((g 57 l.toNatClampNeg) - (g 57 l.toNatClampNeg) / 3 * 3)) + 1)], (hp_SH ++ dy, g, r)) [] rfl trivial ?_
          exact mm_ri rfl (mm_at ok_Mo_times (i := 29) rfl).1 ⟨Nat.le_refl _, Nat.le_refl _⟩ ⟨congrArg some (congrArg Value.int (by first | (simp only [f_Mo_times, if_neg h1, if_neg h3, if_pos h5, if_pos h7]; done) | (exfalso; contradiction) | (exfalso; simp_all; done))), rfl⟩

def f_Mo_keeps (g : Nat → Nat → Int32) (l d : Int32) : Int32 := (if (g 56 l.toNatClampNeg) = 2 then (if (g 57 l.toNatClampNeg) < d then 0 else 1) else (if (g 56 l.toNatClampNeg) = 4 then (if d ≤ (g 57 l.toNatClampNeg) then 1 else (if (d - d / 2 * 2) = 0 then 1 else 0)) else (if (g 56 l.toNatClampNeg) = 3 then (if 4 < d then 0 else 1) else 1)))
theorem zo_Mo_keeps (g : Nat → Nat → Int32) (l d : Int32) : f_Mo_keeps g l d = 0 ∨ f_Mo_keeps g l d = 1 := by
  unfold f_Mo_keeps
  repeat' split
  all_goals first | exact Or.inl rfl | exact Or.inr rfl
theorem ct_Mo_keeps (dy : List mm_Sh) (g : Nat → Nat → Int32) (r : (Nat → Nat → Int64) × Nat × (Nat → Int32)) (l d : Int32) (hl : vp_in l 4) : mm_Ct 1 M_Mo_keeps [.ref 52, .int l, .int d] (hp_SH ++ dy, g, r) 0 0 (fun v h' => v = some (.int (f_Mo_keeps g l d)) ∧ h' = (hp_SH ++ dy, g, r)) := by
  refine mm_start pl_Mo (Nat.le_of_ble_eq_true rfl) ?_
  refine mm_I ok_Mo_keeps 0 7 9 [some (.ref 52), some (.int l), some (.int d), some (.int (g 56 l.toNatClampNeg))] [.int 2, .int (g 56 l.toNatClampNeg)] (hp_SH ++ dy, g, r) [vp_in l 4] rfl (show vp_in l 4 from (by first | exact mm_vi rfl | assumption | decide)) rfl rfl (fun h1 => ?_) (fun h1 => ?_)
  · refine mm_I ok_Mo_keeps 18 2 30 [some (.ref 52), some (.int l), some (.int d), some (.int (g 56 l.toNatClampNeg))] [.int 4, .int (g 56 l.toNatClampNeg)] (hp_SH ++ dy, g, r) [] rfl trivial rfl rfl (fun h2 => ?_) (fun h2 => ?_)
    · refine mm_I ok_Mo_keeps 35 2 57 [some (.ref 52), some (.int l), some (.int d), some (.int (g 56 l.toNatClampNeg))] [.int 3, .int (g 56 l.toNatClampNeg)] (hp_SH ++ dy, g, r) [] rfl trivial rfl rfl (fun h3 => ?_) (fun h3 => ?_)
      · refine mm_B ok_Mo_keeps 41 2 (70, [some (.ref 52), some (.int l), some (.int d), some (.int (g 56 l.toNatClampNeg))], [.int 1], (hp_SH ++ dy, g, r)) [] rfl trivial ?_
        exact mm_rz rfl (mm_at ok_Mo_keeps (i := 44) rfl).1 ⟨Nat.le_refl _, Nat.le_refl _⟩ (Or.inr rfl) ⟨congrArg some (congrArg Value.int (by first | (simp only [f_Mo_keeps, if_neg h1, if_neg h2, if_neg h3]; done) | (exfalso; contradiction) | (exfalso; simp_all; done))), rfl⟩
      · refine mm_I ok_Mo_keeps 38 2 62 [some (.ref 52), some (.int l), some (.int d), some (.int (g 56 l.toNatClampNeg))] [.int 4, .int d] (hp_SH ++ dy, g, r) [] rfl trivial rfl rfl (fun h4 => ?_) (fun h4 => ?_)
        · refine mm_B ok_Mo_keeps 43 1 (70, [some (.ref 52), some (.int l), some (.int d), some (.int (g 56 l.toNatClampNeg))], [.int 0], (hp_SH ++ dy, g, r)) [] rfl trivial ?_
          exact mm_rz rfl (mm_at ok_Mo_keeps (i := 44) rfl).1 ⟨Nat.le_refl _, Nat.le_refl _⟩ (Or.inl rfl) ⟨congrArg some (congrArg Value.int (by first | (simp only [f_Mo_keeps, if_neg h1, if_neg h2, if_pos h3, if_pos h4]; done) | (exfalso; contradiction) | (exfalso; simp_all; done))), rfl⟩
        · refine mm_B ok_Mo_keeps 41 2 (70, [some (.ref 52), some (.int l), some (.int d), some (.int (g 56 l.toNatClampNeg))], [.int 1], (hp_SH ++ dy, g, r)) [] rfl trivial ?_
          exact mm_rz rfl (mm_at ok_Mo_keeps (i := 44) rfl).1 ⟨Nat.le_refl _, Nat.le_refl _⟩ (Or.inr rfl) ⟨congrArg some (congrArg Value.int (by first | (simp only [f_Mo_keeps, if_neg h1, if_neg h2, if_pos h3, if_neg h4]; done) | (exfalso; contradiction) | (exfalso; simp_all; done))), rfl⟩
    · refine mm_I ok_Mo_keeps 21 5 40 [some (.ref 52), some (.int l), some (.int d), some (.int (g 56 l.toNatClampNeg))] [.int (g 57 l.toNatClampNeg), .int d] (hp_SH ++ dy, g, r) [vp_in l 4] rfl (show vp_in l 4 from (by first | exact mm_vi rfl | assumption | decide)) rfl rfl (fun h5 => ?_) (fun h5 => ?_)
      · refine mm_B ok_Mo_keeps 31 2 (54, [some (.ref 52), some (.int l), some (.int d), some (.int (g 56 l.toNatClampNeg))], [.int 1], (hp_SH ++ dy, g, r)) [] rfl trivial ?_
        exact mm_rz rfl (mm_at ok_Mo_keeps (i := 34) rfl).1 ⟨Nat.le_refl _, Nat.le_refl _⟩ (Or.inr rfl) ⟨congrArg some (congrArg Value.int (by first | (simp only [f_Mo_keeps, if_neg h1, if_pos h2, if_pos h5]; done) | (exfalso; contradiction) | (exfalso; simp_all; done))), rfl⟩
      · refine mm_I ok_Mo_keeps 27 3 46 [some (.ref 52), some (.int l), some (.int d), some (.int (g 56 l.toNatClampNeg))] [.int (d - d / 2 * 2)] (hp_SH ++ dy, g, r) [¬ (2 : Int32) = 0] rfl (show ¬ (2 : Int32) = 0 from (by first | exact mm_vi rfl | assumption | decide)) rfl rfl (fun h6 => ?_) (fun h6 => ?_)
        · refine mm_B ok_Mo_keeps 33 1 (54, [some (.ref 52), some (.int l), some (.int d), some (.int (g 56 l.toNatClampNeg))], [.int 0], (hp_SH ++ dy, g, r)) [] rfl trivial ?_
          exact mm_rz rfl (mm_at ok_Mo_keeps (i := 34) rfl).1 ⟨Nat.le_refl _, Nat.le_refl _⟩ (Or.inl rfl) ⟨congrArg some (congrArg Value.int (by first | (simp only [f_Mo_keeps, if_neg h1, if_pos h2, if_neg h5, if_neg h6]; done) | (exfalso; contradiction) | (exfalso; simp_all; done))), rfl⟩
        · refine mm_B ok_Mo_keeps 31 2 (54, [some (.ref 52), some (.int l), some (.int d), some (.int (g 56 l.toNatClampNeg))], [.int 1], (hp_SH ++ dy, g, r)) [] rfl trivial ?_
          exact mm_rz rfl (mm_at ok_Mo_keeps (i := 34) rfl).1 ⟨Nat.le_refl _, Nat.le_refl _⟩ (Or.inr rfl) ⟨congrArg some (congrArg Value.int (by first | (simp only [f_Mo_keeps, if_neg h1, if_pos h2, if_neg h5, if_pos h6]; done) | (exfalso; contradiction) | (exfalso; simp_all; done))), rfl⟩
  · refine mm_I ok_Mo_keeps 8 5 19 [some (.ref 52), some (.int l), some (.int d), some (.int (g 56 l.toNatClampNeg))] [.int (g 57 l.toNatClampNeg), .int d] (hp_SH ++ dy, g, r) [vp_in l 4] rfl (show vp_in l 4 from (by first | exact mm_vi rfl | assumption | decide)) rfl rfl (fun h7 => ?_) (fun h7 => ?_)
    · refine mm_B ok_Mo_keeps 16 1 (27, [some (.ref 52), some (.int l), some (.int d), some (.int (g 56 l.toNatClampNeg))], [.int 0], (hp_SH ++ dy, g, r)) [] rfl trivial ?_
      exact mm_rz rfl (mm_at ok_Mo_keeps (i := 17) rfl).1 ⟨Nat.le_refl _, Nat.le_refl _⟩ (Or.inl rfl) ⟨congrArg some (congrArg Value.int (by first | (simp only [f_Mo_keeps, if_pos h1, if_pos h7]; done) | (exfalso; contradiction) | (exfalso; simp_all; done))), rfl⟩
    · refine mm_B ok_Mo_keeps 14 2 (27, [some (.ref 52), some (.int l), some (.int d), some (.int (g 56 l.toNatClampNeg))], [.int 1], (hp_SH ++ dy, g, r)) [] rfl trivial ?_
      exact mm_rz rfl (mm_at ok_Mo_keeps (i := 17) rfl).1 ⟨Nat.le_refl _, Nat.le_refl _⟩ (Or.inr rfl) ⟨congrArg some (congrArg Value.int (by first | (simp only [f_Mo_keeps, if_pos h1, if_neg h7]; done) | (exfalso; contradiction) | (exfalso; simp_all; done))), rfl⟩

def f_Mo_pointsOf (g : Nat → Nat → Int32) (l : Int32) : Int32 := (if (g 56 l.toNatClampNeg) = 0 then (10 + (g 57 l.toNatClampNeg)) else (if (g 56 l.toNatClampNeg) = 2 then (if (g 56 l.toNatClampNeg) = 4 then (((10 + (g 57 l.toNatClampNeg)) - 5) / 2) else ((10 + (g 57 l.toNatClampNeg)) - 5)) else (if (g 56 l.toNatClampNeg) = 4 then (if (g 56 l.toNatClampNeg) = 4 then (((10 + (g 57 l.toNatClampNeg)) - 5) / 2) else ((10 + (g 57 l.toNatClampNeg)) - 5)) else (if (g 56 l.toNatClampNeg) = 3 then ((2 * (10 + (g 57 l.toNatClampNeg))) + (g 57 l.toNatClampNeg)) else (if (g 56 l.toNatClampNeg) = 5 then ((2 * (10 + (g 57 l.toNatClampNeg))) + 7) else ((2 * (10 + (g 57 l.toNatClampNeg))) + 0))))))
theorem ct_Mo_pointsOf (dy : List mm_Sh) (g : Nat → Nat → Int32) (r : (Nat → Nat → Int64) × Nat × (Nat → Int32)) (l : Int32) (hl : vp_in l 4) : mm_Ct 1 M_Mo_pointsOf [.ref 52, .int l] (hp_SH ++ dy, g, r) 0 0 (fun v h' => v = some (.int (f_Mo_pointsOf g l)) ∧ h' = (hp_SH ++ dy, g, r)) := by
  refine mm_start pl_Mo (Nat.le_of_ble_eq_true rfl) ?_
  refine mm_I ok_Mo_pointsOf 0 13 18 [some (.ref 52), some (.int l), some (.int (g 56 l.toNatClampNeg)), some (.int (10 + (g 57 l.toNatClampNeg)))] [.int (g 56 l.toNatClampNeg)] (hp_SH ++ dy, g, r) [vp_in l 4, vp_in l 4] rfl (show (vp_in l 4) ∧ (vp_in l 4) from ⟨(by first | exact mm_vi rfl | assumption | decide), (by first | exact mm_vi rfl | assumption | decide)⟩) rfl rfl (fun h1 => ?_) (fun h1 => ?_)
  · refine mm_I ok_Mo_pointsOf 16 2 25 [some (.ref 52), some (.int l), some (.int (g 56 l.toNatClampNeg)), some (.int (10 + (g 57 l.toNatClampNeg)))] [.int 2, .int (g 56 l.toNatClampNeg)] (hp_SH ++ dy, g, r) [] rfl trivial rfl rfl (fun h2 => ?_) (fun h2 => ?_)
    · refine mm_I ok_Mo_pointsOf 22 2 35 [some (.ref 52), some (.int l), some (.int (g 56 l.toNatClampNeg)), some (.int (10 + (g 57 l.toNatClampNeg)))] [.int 4, .int (g 56 l.toNatClampNeg)] (hp_SH ++ dy, g, r) [] rfl trivial rfl rfl (fun h3 => ?_) (fun h3 => ?_)
      · refine mm_B ok_Mo_pointsOf 31 3 (49, [some (.ref 52), some (.int l), some (.int (g 56 l.toNatClampNeg)), some (.int (10 + (g 57 l.toNatClampNeg)))], [.int ((10 + (g 57 l.toNatClampNeg)) - 5)], (hp_SH ++ dy, g, r)) [] rfl trivial ?_
        exact mm_ri rfl (mm_at ok_Mo_pointsOf (i := 34) rfl).1 ⟨Nat.le_refl _, Nat.le_refl _⟩ ⟨congrArg some (congrArg Value.int (by first | (simp only [f_Mo_pointsOf, if_neg h1, if_pos h2, if_neg h3]; done) | (exfalso; contradiction) | (exfalso; simp_all; done))), rfl⟩
      · refine mm_B ok_Mo_pointsOf 25 6 (49, [some (.ref 52), some (.int l), some (.int (g 56 l.toNatClampNeg)), some (.int (10 + (g 57 l.toNatClampNeg)))], [.int (((10 + (g 57 l.toNatClampNeg)) - 5) / 2)], (hp_SH ++ dy, g, r)) [¬ (2 : Int32) = 0] rfl (show ¬ (2 : Int32) = 0 from (by first | exact mm_vi rfl | assumption | decide)) ?_
        exact mm_ri rfl (mm_at ok_Mo_pointsOf (i := 34) rfl).1 ⟨Nat.le_refl _, Nat.le_refl _⟩ ⟨congrArg some (congrArg Value.int (by first | (simp only [f_Mo_pointsOf, if_neg h1, if_pos h2, if_pos h3]; done) | (exfalso; contradiction) | (exfalso; simp_all; done))), rfl⟩
    · refine mm_I ok_Mo_pointsOf 19 2 30 [some (.ref 52), some (.int l), some (.int (g 56 l.toNatClampNeg)), some (.int (10 + (g 57 l.toNatClampNeg)))] [.int 4, .int (g 56 l.toNatClampNeg)] (hp_SH ++ dy, g, r) [] rfl trivial rfl rfl (fun h4 => ?_) (fun h4 => ?_)
      · refine mm_I ok_Mo_pointsOf 35 5 55 [some (.ref 52), some (.int l), some (.int (g 56 l.toNatClampNeg)), some (.int (10 + (g 57 l.toNatClampNeg)))] [.int 3, .int (g 56 l.toNatClampNeg), .int (2 * (10 + (g 57 l.toNatClampNeg)))] (hp_SH ++ dy, g, r) [] rfl trivial rfl rfl (fun h5 => ?_) (fun h5 => ?_)
        · refine mm_I ok_Mo_pointsOf 46 2 69 [some (.ref 52), some (.int l), some (.int (g 56 l.toNatClampNeg)), some (.int (10 + (g 57 l.toNatClampNeg)))] [.int 5, .int (g 56 l.toNatClampNeg), .int (2 * (10 + (g 57 l.toNatClampNeg)))] (hp_SH ++ dy, g, r) [] rfl trivial rfl rfl (fun h6 => ?_) (fun h6 => ?_)
          · refine mm_B ok_Mo_pointsOf 51 2 (79, [some (.ref 52), some (.int l), some (.int (g 56 l.toNatClampNeg)), some (.int (10 + (g 57 l.toNatClampNeg)))], [.int ((2 * (10 + (g 57 l.toNatClampNeg))) + 0)], (hp_SH ++ dy, g, r)) [] rfl trivial ?_
            exact mm_ri rfl (mm_at ok_Mo_pointsOf (i := 53) rfl).1 ⟨Nat.le_refl _, Nat.le_refl _⟩ ⟨congrArg some (congrArg Value.int (by first | (simp only [f_Mo_pointsOf, if_neg h1, if_neg h2, if_neg h4, if_neg h5, if_neg h6]; done) | (exfalso; contradiction) | (exfalso; simp_all; done))), rfl⟩
          · refine mm_B ok_Mo_pointsOf 49 2 (78, [some (.ref 52), some (.int l), some (.int (g 56 l.toNatClampNeg)), some (.int (10 + (g 57 l.toNatClampNeg)))], [.int 7, .int (2 * (10 + (g 57 l.toNatClampNeg)))], (hp_SH ++ dy, g, r)) [] rfl trivial ?_
            refine mm_B ok_Mo_pointsOf 52 1 (79, [some (.ref 52), some (.int l), some (.int (g 56 l.toNatClampNeg)), some (.int (10 + (g 57 l.toNatClampNeg)))], [.int ((2 * (10 + (g 57 l.toNatClampNeg))) + 7)], (hp_SH ++ dy, g, r)) [] rfl trivial ?_
            exact mm_ri rfl (mm_at ok_Mo_pointsOf (i := 53) rfl).1 ⟨Nat.le_refl _, Nat.le_refl _⟩ ⟨congrArg some (congrArg Value.int (by first | (simp only [f_Mo_pointsOf, if_neg h1, if_neg h2, if_neg h4, if_neg h5, if_pos h6]; done) | (exfalso; contradiction) | (exfalso; simp_all; done))), rfl⟩
        · refine mm_B ok_Mo_pointsOf 41 5 (78, [some (.ref 52), some (.int l), some (.int (g 56 l.toNatClampNeg)), some (.int (10 + (g 57 l.toNatClampNeg)))], [.int (g 57 l.toNatClampNeg), .int (2 * (10 + (g 57 l.toNatClampNeg)))], (hp_SH ++ dy, g, r)) [vp_in l 4] rfl (show vp_in l 4 from (by first | exact mm_vi rfl | assumption | decide)) ?_
          refine mm_B ok_Mo_pointsOf 52 1 (79, [some (.ref 52), some (.int l), some (.int (g 56 l.toNatClampNeg)), some (.int (10 + (g 57 l.toNatClampNeg)))], [.int ((2 * (10 + (g 57 l.toNatClampNeg))) + (g 57 l.toNatClampNeg))], (hp_SH ++ dy, g, r)) [] rfl trivial ?_
          exact mm_ri rfl (mm_at ok_Mo_pointsOf (i := 53) rfl).1 ⟨Nat.le_refl _, Nat.le_refl _⟩ ⟨congrArg some (congrArg Value.int (by first | (simp only [f_Mo_pointsOf, if_neg h1, if_neg h2, if_neg h4, if_pos h5]; done) | (exfalso; contradiction) | (exfalso; simp_all; done))), rfl⟩
      · refine mm_I ok_Mo_pointsOf 22 2 35 [some (.ref 52), some (.int l), some (.int (g 56 l.toNatClampNeg)), some (.int (10 + (g 57 l.toNatClampNeg)))] [.int 4, .int (g 56 l.toNatClampNeg)] (hp_SH ++ dy, g, r) [] rfl trivial rfl rfl (fun h7 => ?_) (fun h7 => ?_)
        · refine mm_B ok_Mo_pointsOf 31 3 (49, [some (.ref 52), some (.int l), some (.int (g 56 l.toNatClampNeg)), some (.int (10 + (g 57 l.toNatClampNeg)))], [.int ((10 + (g 57 l.toNatClampNeg)) - 5)], (hp_SH ++ dy, g, r)) [] rfl trivial ?_
          exact mm_ri rfl (mm_at ok_Mo_pointsOf (i := 34) rfl).1 ⟨Nat.le_refl _, Nat.le_refl _⟩ ⟨congrArg some (congrArg Value.int (by first | (simp only [f_Mo_pointsOf, if_neg h1, if_neg h2, if_pos h4, if_neg h7]; done) | (exfalso; contradiction) | (exfalso; simp_all; done))), rfl⟩
        · refine mm_B ok_Mo_pointsOf 25 6 (49, [some (.ref 52), some (.int l), some (.int (g 56 l.toNatClampNeg)), some (.int (10 + (g 57 l.toNatClampNeg)))], [.int (((10 + (g 57 l.toNatClampNeg)) - 5) / 2)], (hp_SH ++ dy, g, r)) [¬ (2 : Int32) = 0] rfl (show ¬ (2 : Int32) = 0 from (by first | exact mm_vi rfl | assumption | decide)) ?_
          exact mm_ri rfl (mm_at ok_Mo_pointsOf (i := 34) rfl).1 ⟨Nat.le_refl _, Nat.le_refl _⟩ ⟨congrArg some (congrArg Value.int (by first | (simp only [f_Mo_pointsOf, if_neg h1, if_neg h2, if_pos h4, if_pos h7]; done) | (exfalso; contradiction) | (exfalso; simp_all; done))), rfl⟩
  · refine mm_B ok_Mo_pointsOf 14 1 (22, [some (.ref 52), some (.int l), some (.int (g 56 l.toNatClampNeg)), some (.int (10 + (g 57 l.toNatClampNeg)))], [.int (10 + (g 57 l.toNatClampNeg))], (hp_SH ++ dy, g, r)) [] rfl trivial ?_
    exact mm_ri rfl (mm_at ok_Mo_pointsOf (i := 15) rfl).1 ⟨Nat.le_refl _, Nat.le_refl _⟩ ⟨congrArg some (congrArg Value.int (by first | (simp only [f_Mo_pointsOf, if_pos h1]; done) | (exfalso; contradiction) | (exfalso; simp_all; done))), rfl⟩

theorem mv_times : ∀ k, k < 6 → ∀ n, n < 10 → ((if (nI k) = 1 then (if (nI k) = 3 then ((1 + ((nI n) - (nI n) / 3 * 3)) + 1) else ((1 + ((nI n) - (nI n) / 3 * 3)) + 0)) else (if (nI k) = 3 then (if (nI k) = 3 then ((1 + ((nI n) - (nI n) / 3 * 3)) + 1) else ((1 + ((nI n) - (nI n) / 3 * 3)) + 0)) else (if (nI k) = 5 then (if (nI k) = 3 then ((1 + ((nI n) - (nI n) / 3 * 3)) + 1) else ((1 + ((nI n) - (nI n) / 3 * 3)) + 0)) else (if (nI k) = 4 then (1 + ((nI n) - (nI n) / 2 * 2)) else 1)))) : Int32) = nI (sp_tm k n) := by decide +kernel
theorem mv_keeps : ∀ k, k < 6 → ∀ n, n < 10 → ∀ e, e < 8 → ((if (nI k) = 2 then (if (nI n) < (nI e) then 0 else 1) else (if (nI k) = 4 then (if (nI e) ≤ (nI n) then 1 else (if ((nI e) - (nI e) / 2 * 2) = 0 then 1 else 0)) else (if (nI k) = 3 then (if 4 < (nI e) then 0 else 1) else 1))) : Int32) = if sp_kp k n e = true then 1 else 0 := by decide +kernel
theorem mv_points : ∀ k, k < 6 → ∀ n, n < 10 → ((if (nI k) = 0 then (10 + (nI n)) else (if (nI k) = 2 then (if (nI k) = 4 then (((10 + (nI n)) - 5) / 2) else ((10 + (nI n)) - 5)) else (if (nI k) = 4 then (if (nI k) = 4 then (((10 + (nI n)) - 5) / 2) else ((10 + (nI n)) - 5)) else (if (nI k) = 3 then ((2 * (10 + (nI n))) + (nI n)) else (if (nI k) = 5 then ((2 * (10 + (nI n))) + 7) else ((2 * (10 + (nI n))) + 0)))))) : Int32) = nI (sp_vl k n) := by decide +kernel
theorem ml_at {g P : Nat → Nat → Int32} (hP : nr_ g = P) {T : sp_T} (hL : rl_LM T P) {l : Nat} (hl : l < T.1) : g 56 (nI l).toNatClampNeg = nI (T.2.1 l) ∧ T.2.1 l < 6 ∧ g 57 (nI l).toNatClampNeg = nI (T.2.2.1 l) ∧ T.2.2.1 l < 10 ∧ g 58 (nI l).toNatClampNeg = nI (T.2.2.2 l) ∧ T.2.2.2 l < 2 ^ l := by
  obtain ⟨-, h4, hT⟩ := hL
  obtain ⟨a1, a2, a3, a4, a5, a6⟩ := hT l hl
  rw [nI_clamp (by omega), nr_at hP 56 l rfl, nr_at hP 57 l rfl, nr_at hP 58 l rfl]
  exact ⟨a1, a2, a3, by omega, a5, a6⟩
theorem me_tm {g P : Nat → Nat → Int32} (hP : nr_ g = P) {T : sp_T} (hL : rl_LM T P) {l : Nat} (hl : l < T.1) : f_Mo_times g (nI l) = nI (sp_times T l) := by
  obtain ⟨a1, a2, a3, a4, -, -⟩ := ml_at hP hL hl
  unfold f_Mo_times
  rw [a1, a3]
  exact mv_times _ a2 _ a4
theorem me_kp {g P : Nat → Nat → Int32} (hP : nr_ g = P) {T : sp_T} (hL : rl_LM T P) {l e : Nat} (hl : l < T.1) (he : e < 8) : f_Mo_keeps g (nI l) (nI e) = if sp_keeps T l e = true then 1 else 0 := by
  obtain ⟨a1, a2, a3, a4, -, -⟩ := ml_at hP hL hl
  unfold f_Mo_keeps
  rw [a1, a3]
  exact mv_keeps _ a2 _ a4 _ he
theorem me_vl {g P : Nat → Nat → Int32} (hP : nr_ g = P) {T : sp_T} (hL : rl_LM T P) {l : Nat} (hl : l < T.1) : f_Mo_pointsOf g (nI l) = nI (sp_value T l) := by
  obtain ⟨a1, a2, a3, a4, -, -⟩ := ml_at hP hL hl
  unfold f_Mo_pointsOf
  rw [a1, a3]
  exact mv_points _ a2 _ a4
def sp_p6 (n : Nat) : Nat := n % 2 + n / 2 % 2 + n / 4 % 2 + n / 8 % 2 + n / 16 % 2 + n / 32 % 2
theorem p6_pc : ∀ n, n < 16 → sp_p6 n = sp_pc n := by decide
theorem p6_bc : ∀ n, n < 64 → f_In_bitCount (nI n) = nI (sp_p6 n) := by decide +kernel
theorem p6_st : ∀ m, m < 64 → 0 < m → ((nI m &&& (nI m - 1)) = nI (m &&& (m - 1))) ∧ (m &&& (m - 1)) < m ∧ sp_p6 (m &&& (m - 1)) + 1 = sp_p6 m := by decide +kernel
theorem bo_go (h : mm_Hp) (x : Int32) (v : Nat) (hv : v < 64) : ∀ (N m n : Nat), m < N → m < 64 → n + sp_p6 m = sp_p6 v → mm_W 1 M_Mo_bitsOf 0 0 (fun u h' => u = some (.int (nI (sp_p6 v))) ∧ h' = h) 0 0 (4, [some (.int x), some (.int (nI n)), some (.int (nI m))], [], h) := by
  intro N
  induction N with
  | zero => intro m n h; omega
  | succ N ih =>
  intro m n hN hm hn
  by_cases h0 : m = 0
  · rw [h0] at hn ⊢
    refine mm_I ok_Mo_bitsOf 4 1 5 [some (.int x), some (.int (nI n)), some (.int (nI 0))] [.int (nI 0)] h [] rfl trivial rfl rfl (fun _ => ?_) (fun q => False.elim (q rfl))
    refine mm_B ok_Mo_bitsOf 14 1 (21, [some (.int x), some (.int (nI n)), some (.int (nI 0))], [.int (nI n)], h) [] rfl trivial ?_
    have e0 : sp_p6 0 = 0 := rfl
    exact mm_ri rfl (mm_at ok_Mo_bitsOf (i := 15) rfl).1 ⟨Nat.le_refl _, Nat.le_refl _⟩ (⟨by rw [show n = sp_p6 v by omega], rfl⟩)
  · obtain ⟨s1, s2, s3⟩ := p6_st m hm (by omega)
    refine mm_I ok_Mo_bitsOf 4 1 5 [some (.int x), some (.int (nI n)), some (.int (nI m))] [.int (nI m)] h [] rfl trivial rfl rfl (fun q => False.elim (nI_ne0 (by omega) (by omega) q)) (fun _ => ?_)
    refine mm_B ok_Mo_bitsOf 6 8 (4, [some (.int x), some (.int ((nI n) + 1)), some (.int ((nI m) &&& ((nI m) - 1)))], [], h) [] rfl trivial ?_
    rw [nI_1, s1]
    exact ih _ (n + 1) (by omega) (by omega) (by omega)
theorem ct_Mo_bitsOf (h : mm_Hp) {v : Nat} (hv : v < 64) : mm_Ct 1 M_Mo_bitsOf [.int (nI v)] h 0 0 (fun u h' => u = some (.int (nI (sp_p6 v))) ∧ h' = h) := by
  refine mm_start pl_Mo (Nat.le_of_ble_eq_true rfl) ?_
  refine mm_B ok_Mo_bitsOf 0 4 (4, [some (.int (nI v)), some (.int 0), some (.int (nI v))], [], h) [] rfl trivial ?_
  exact bo_go h (nI v) v hv 64 v 0 hv hv (by omega)
theorem m1_eq : ∀ t, t < 7 → (nI t - 1 = -1 ↔ t = 0) := by decide
theorem z_shl (x y : Int32) : x ||| ((0 : Int32) <<< (y &&& 31)) = x := by
  rw [show (0 : Int32) <<< (y &&& 31) = 0 from Int32.zero_shiftLeft, Int32.or_zero]
theorem mul4 {a : Nat} : (4 : Int32) * nI a = nI (4 * a) := (Int32.ofNat_mul 4 a).symm
theorem hb_go (dy : List mm_Sh) (g P : Nat → Nat → Int32) (r : (Nat → Nat → Int64) × Nat × (Nat → Int32)) (hP : nr_ g = P) {T : sp_T} {t : Nat → Nat} {a b : Nat} (hL : rl_LM T P) (ha : a ≤ 6) (hb : b < 6) (ht : ∀ l, l < T.1 → t l < 7 ∧ t l ≤ b + 1 ∧ g 66 (4 * a + l) = nI (t l) - 1) : ∀ (m k : Nat) (lv5 : Value), k + m = T.1 → mm_W 2 M_Mo_hasBy 0 0 (fun v h' => v = some (.int (nI (sp_has T t b))) ∧ h' = (hp_SH ++ dy, g, r)) 0 0 (5, [some (.ref 52), some (.int (nI a)), some (.int (nI b)), some (.int (nI (sp_bits T t b k))), some (.int (nI k)), none], [], (hp_SH ++ dy, g, r)) := by
  have h4 := hL.2.1
  have e10 : g 52 10 = nI T.1 := by rw [nr_at hP 52 10 rfl]; exact hL.1
  intro m
  induction m with
  | zero =>
    intro k lv5 hk
    have hk : k = T.1 := hk
    refine mm_B ok_Mo_hasBy 4 3 (11, [some (.ref 52), some (.int (nI a)), some (.int (nI b)), some (.int (nI (sp_bits T t b k))), some (.int (nI k)), none], [.int (g 52 10), .int (nI k)], (hp_SH ++ dy, g, r)) [] rfl trivial ?_
    rw [e10]
    refine mm_I ok_Mo_hasBy 7 0 11 [some (.ref 52), some (.int (nI a)), some (.int (nI b)), some (.int (nI (sp_bits T t b k))), some (.int (nI k)), none] [.int (nI T.1), .int (nI k)] (hp_SH ++ dy, g, r) [] rfl trivial rfl rfl (fun _ => ?_) (fun q => False.elim (q (nI_le (by omega) (by omega))))
    refine mm_B ok_Mo_hasBy 37 1 (64, [some (.ref 52), some (.int (nI a)), some (.int (nI b)), some (.int (nI (sp_bits T t b k))), some (.int (nI k)), none], [.int (nI (sp_bits T t b k))], (hp_SH ++ dy, g, r)) [] rfl trivial ?_
    exact mm_ri rfl (mm_at ok_Mo_hasBy (i := 38) rfl).1 ⟨Nat.le_refl _, Nat.le_refl _⟩ (⟨by rw [hk]; rfl, rfl⟩)
  | succ m ih =>
    intro k lv5 hk
    have hkT : k < T.1 := by omega
    obtain ⟨t7, tb, t66⟩ := ht k hkT
    have hbl := sp_bits_lt T t b k
    have h16 : 2 ^ k ≤ 2 ^ 3 := Nat.pow_le_pow_right (by decide) (by omega)
    refine mm_B ok_Mo_hasBy 4 3 (11, [some (.ref 52), some (.int (nI a)), some (.int (nI b)), some (.int (nI (sp_bits T t b k))), some (.int (nI k)), none], [.int (g 52 10), .int (nI k)], (hp_SH ++ dy, g, r)) [] rfl trivial ?_
    rw [e10]
    refine mm_I ok_Mo_hasBy 7 0 11 [some (.ref 52), some (.int (nI a)), some (.int (nI b)), some (.int (nI (sp_bits T t b k))), some (.int (nI k)), none] [.int (nI T.1), .int (nI k)] (hp_SH ++ dy, g, r) [] rfl trivial rfl rfl (fun q => False.elim (nI_ge hkT (by omega) q)) (fun _ => ?_)
    refine mm_B ok_Mo_hasBy 8 12 (31, [some (.ref 52), some (.int (nI a)), some (.int (nI b)), some (.int (nI (sp_bits T t b k))), some (.int (nI k)), some (.int (g 66 (((4 * (nI a)) + (nI k)).toNatClampNeg)))], [.int (-1), .int (g 66 (((4 * (nI a)) + (nI k)).toNatClampNeg)), .int (nI (sp_bits T t b k))], (hp_SH ++ dy, g, r)) [vp_in ((4 * (nI a)) + (nI k)) 28] rfl (show vp_in ((4 * (nI a)) + (nI k)) 28 from (by rw [mul4, nI_add]; exact nI_vi (by omega) (by decide))) ?_
    rw [mul4, nI_add, nI_clamp (show 4 * a + k < 2 ^ 31 by omega), t66]
    by_cases h0 : t k = 0
    · refine mm_I ok_Mo_hasBy 20 0 31 [some (.ref 52), some (.int (nI a)), some (.int (nI b)), some (.int (nI (sp_bits T t b k))), some (.int (nI k)), some (.int (nI (t k) - 1))] [.int (-1), .int (nI (t k) - 1), .int (nI (sp_bits T t b k))] (hp_SH ++ dy, g, r) [] rfl trivial rfl rfl (fun _ => ?_) (fun q => False.elim (q ((m1_eq _ t7).mpr h0)))
      refine mm_B ok_Mo_hasBy 30 7 (5, [some (.ref 52), some (.int (nI a)), some (.int (nI b)), some (.int ((nI (sp_bits T t b k)) ||| (0 <<< ((nI k) &&& 31)))), some (.int ((nI k) + 1)), some (.int (nI (t k) - 1))], [], (hp_SH ++ dy, g, r)) [] rfl trivial ?_
      rw [z_shl, nI_1]
      refine mm_fg [5] ?_
      have e9 : sp_bits T t b (k + 1) = sp_bits T t b k := by
        simp only [sp_bits]
        rw [if_neg (by unfold sp_hs; rw [h0]; simp)]
        rfl
      have h8 := ih (k + 1) .null (by omega)
      rw [e9] at h8
      exact h8
    · refine mm_I ok_Mo_hasBy 20 0 31 [some (.ref 52), some (.int (nI a)), some (.int (nI b)), some (.int (nI (sp_bits T t b k))), some (.int (nI k)), some (.int (nI (t k) - 1))] [.int (-1), .int (nI (t k) - 1), .int (nI (sp_bits T t b k))] (hp_SH ++ dy, g, r) [] rfl trivial rfl rfl (fun q => False.elim (h0 ((m1_eq _ t7).mp q))) (fun _ => ?_)
      refine mm_B ok_Mo_hasBy 21 5 (41, [some (.ref 52), some (.int (nI a)), some (.int (nI b)), some (.int (nI (sp_bits T t b k))), some (.int (nI k)), some (.int (nI (t k) - 1))], [.int ((nI b) - (nI (t k) - 1)), .int (nI k), .ref 52, .int (nI (sp_bits T t b k))], (hp_SH ++ dy, g, r)) [] rfl trivial ?_
      rw [ow_sub h0 tb]
      refine mm_cV (as := [.int (nI k), .int (nI (b + 1 - t k))]) (st := [.int (nI (sp_bits T t b k))]) (q := 52) cw_Mo_keeps lk_Mo_264 in_Mo_keeps sl_Mo_keeps rfl rfl (mm_at ok_Mo_hasBy (i := 26) rfl).1 (ct_Mo_keeps dy g r (nI k) (nI (b + 1 - t k)) (nI_vi (by omega) (by decide))) (by decide) ⟨by omega, by omega⟩ (Nat.le_of_ble_eq_true rfl) (mm_vs_b (b := 77) rfl (hp_len dy)) (fun v h' hqq => ?_)
      obtain ⟨rfl, hqe⟩ := hqq; rw [hqe]
      rw [me_kp hP hL hkT (show b + 1 - t k < 8 by omega)]
      by_cases hkp : sp_keeps T k (b + 1 - t k) = true
      · rw [if_pos hkp]
        refine mm_I ok_Mo_hasBy 27 0 44 [some (.ref 52), some (.int (nI a)), some (.int (nI b)), some (.int (nI (sp_bits T t b k))), some (.int (nI k)), some (.int (nI (t k) - 1))] [.int 1, .int (nI (sp_bits T t b k))] (hp_SH ++ dy, g, r) [] rfl trivial rfl rfl (fun q => False.elim (absurd q (by decide))) (fun _ => ?_)
        refine mm_B ok_Mo_hasBy 28 2 (52, [some (.ref 52), some (.int (nI a)), some (.int (nI b)), some (.int (nI (sp_bits T t b k))), some (.int (nI k)), some (.int (nI (t k) - 1))], [.int 1, .int (nI (sp_bits T t b k))], (hp_SH ++ dy, g, r)) [] rfl trivial ?_
        refine mm_B ok_Mo_hasBy 31 6 (5, [some (.ref 52), some (.int (nI a)), some (.int (nI b)), some (.int ((nI (sp_bits T t b k)) ||| (1 <<< ((nI k) &&& 31)))), some (.int ((nI k) + 1)), some (.int (nI (t k) - 1))], [], (hp_SH ++ dy, g, r)) [] rfl trivial ?_
        rw [bt_bit k (by omega) _ hbl, nI_1]
        refine mm_fg [5] ?_
        have e9 : sp_bits T t b (k + 1) = sp_bits T t b k + 2 ^ k := by
          simp only [sp_bits]
          rw [if_pos (by unfold sp_hs; rw [hkp]; simpa using h0)]
        have h8 := ih (k + 1) .null (by omega)
        rw [e9] at h8
        exact h8
      · rw [if_neg hkp]
        refine mm_I ok_Mo_hasBy 27 0 44 [some (.ref 52), some (.int (nI a)), some (.int (nI b)), some (.int (nI (sp_bits T t b k))), some (.int (nI k)), some (.int (nI (t k) - 1))] [.int 0, .int (nI (sp_bits T t b k))] (hp_SH ++ dy, g, r) [] rfl trivial rfl rfl (fun _ => ?_) (fun q => False.elim (q rfl))
        refine mm_B ok_Mo_hasBy 30 7 (5, [some (.ref 52), some (.int (nI a)), some (.int (nI b)), some (.int ((nI (sp_bits T t b k)) ||| (0 <<< ((nI k) &&& 31)))), some (.int ((nI k) + 1)), some (.int (nI (t k) - 1))], [], (hp_SH ++ dy, g, r)) [] rfl trivial ?_
        rw [z_shl, nI_1]
        refine mm_fg [5] ?_
        have e9 : sp_bits T t b (k + 1) = sp_bits T t b k := by
          simp only [sp_bits]
          rw [if_neg (by unfold sp_hs; intro h; exact hkp ((Bool.and_eq_true _ _).mp h).2)]
          rfl
        have h8 := ih (k + 1) .null (by omega)
        rw [e9] at h8
        exact h8
theorem ct_Mo_hasBy (dy : List mm_Sh) (g P : Nat → Nat → Int32) (r : (Nat → Nat → Int64) × Nat × (Nat → Int32)) (hP : nr_ g = P) {T : sp_T} {t : Nat → Nat} {a b : Nat} (hL : rl_LM T P) (ha : a ≤ 6) (hb : b < 6) (ht : ∀ l, l < T.1 → t l < 7 ∧ t l ≤ b + 1 ∧ g 66 (4 * a + l) = nI (t l) - 1) : mm_Ct 2 M_Mo_hasBy [.ref 52, .int (nI a), .int (nI b)] (hp_SH ++ dy, g, r) 0 0 (fun v h' => v = some (.int (nI (sp_has T t b))) ∧ h' = (hp_SH ++ dy, g, r)) := by
  refine mm_start pl_Mo (Nat.le_of_ble_eq_true rfl) ?_
  refine mm_B ok_Mo_hasBy 0 4 (5, [some (.ref 52), some (.int (nI a)), some (.int (nI b)), some (.int 0), some (.int 0), none], [], (hp_SH ++ dy, g, r)) [] rfl trivial ?_
  exact hb_go dy g P r hP hL ha hb ht T.1 0 .null (Nat.zero_add _)


