/-! ===== calls that change the state: the model's child ===== -/
theorem ag_in (a : Int32) : f_Mo_in a.toInt64 5 14 = iz_ (ag_ a) := by
  rw [show (5 : Int64) = (nI 5).toInt64 by decide, show (14 : Int64) = (nI 14).toInt64 by decide, in_be (by decide) (by decide)]
  unfold ag_
  by_cases h : a < 5
  · rw [if_pos h]; exact if_pos (Or.inl h)
  · rw [if_neg h]
    cases hx : ix_ 15 a with
    | none =>
      rcases g1_n (n := 14) (by decide) hx with h2 | h2
      · exact absurd (Int32.lt_trans h2 (by decide)) h
      · exact if_pos (Or.inr h2)
    | some y =>
      obtain ⟨hy, rfl⟩ := ix_some (by decide) hx
      exact if_neg (fun q => q.elim h (fun q => absurd q (Int32.not_lt.mpr (nI_le (b := 14) (by omega) (by decide)))))
theorem cm_child (dy : List mm_Sh) (g : Nat → Nat → Int32) (r : (Nat → Nat → Int64) × Nat × (Nat → Int32)) {A : sA} (hI : MI (nr_ g) A) (w a : Int32) : mm_Ct 12 M_Mo_child [.ref 52, .int w, .int a] (hp_SH ++ dy, g, r) 0 0 (RM dy g r (an_child A w a).2 (.int (an_child A w a).1)) := by
  have hK := hI.2.1
  have h6 := hK.2.1
  have e14 : g 52 14 = nI A.2.1.1 := by rw [← nr_eq g (k := 52) (j := 14) rfl]; exact hK.1
  have hbad : ch_ w a = none → RM dy g r (an_child A w a).2 (.int (an_child A w a).1) (some (.int (-2))) (hp_SH ++ dy, g, r) := fun h => by
    rw [show an_child A w a = (-2, A) by unfold an_child; rw [h]]
    exact RM_q rfl hI fr_.rf
  refine mm_start pl_Mo (Nat.le_of_ble_eq_true rfl) ?_
  refine mm_B ok_Mo_child 0 4 (6, [some (.ref 52), some (.int w), some (.int a)], [.long 99, .long 0, .long (w).toInt64], (hp_SH ++ dy, g, r)) [] rfl trivial ?_
  refine mm_cS (as := [.long (w).toInt64, .long 0, .long 99]) (st := []) cw_Mo_in lk_Mo_100 sx_Mo_in (mm_at ok_Mo_child (i := 4) rfl).1 (ct_Mo_in (hp_SH ++ dy, g, r) w.toInt64 0 99) (by decide) ⟨by omega, by omega⟩ (Nat.le_of_ble_eq_true rfl) (mm_vs_b (b := 77) rfl (hp_len dy)) (fun v h' hqq => ?_)
  obtain ⟨rfl, hqe⟩ := hqq; rw [hqe, in_100 w]
  cases hx1 : ix_ 100 w with
  | none =>
    refine mm_I ok_Mo_child 5 0 9 [some (.ref 52), some (.int w), some (.int a)] [.int (iz_ none)] (hp_SH ++ dy, g, r) [] rfl trivial rfl rfl (fun _ => ?_) (fun q => False.elim (q rfl))
    refine mm_B ok_Mo_child 24 1 (48, [some (.ref 52), some (.int w), some (.int a)], [.int (-2)], (hp_SH ++ dy, g, r)) [] rfl trivial ?_
    exact mm_ri rfl (mm_at ok_Mo_child (i := 25) rfl).1 ⟨Nat.le_refl _, Nat.le_refl _⟩ (hbad (by unfold ch_; rw [hx1]))
  | some x =>
    obtain ⟨hx, rfl⟩ := ix_some (by decide) hx1
    have e1 : nI x / 10 = nI (x / 10) := nI_div (b := 10) (by omega) (by decide)
    have e2 : nI x - nI x / 10 * 10 = nI (x % 10) := nI_mod (b := 10) (by omega) (by decide)
    refine mm_I ok_Mo_child 5 0 9 [some (.ref 52), some (.int (nI x)), some (.int a)] [.int (iz_ (some x))] (hp_SH ++ dy, g, r) [] rfl trivial rfl rfl (fun q => False.elim (one0 q)) (fun _ => ?_)
    refine mm_B ok_Mo_child 6 6 (20, [some (.ref 52), some (.int (nI x)), some (.int a)], [.int ((nI x) - (nI x) / 10 * 10), .int ((nI x) / 10)], (hp_SH ++ dy, g, r)) [¬ (10 : Int32) = 0, ¬ (10 : Int32) = 0] rfl (show (¬ (10 : Int32) = 0) ∧ (¬ (10 : Int32) = 0) from ⟨((by decide)), ((by decide))⟩) ?_
    rw [e2, e1]
    refine mm_I ok_Mo_child 12 0 20 [some (.ref 52), some (.int (nI x)), some (.int a)] [.int (nI (x % 10)), .int (nI (x / 10))] (hp_SH ++ dy, g, r) [] rfl trivial rfl rfl (fun h3 => ?_) (fun h3 => ?_)
    · have h3 := (nI_ltI (by omega) (by omega)).mp h3
      refine mm_B ok_Mo_child 24 1 (48, [some (.ref 52), some (.int (nI x)), some (.int a)], [.int (-2)], (hp_SH ++ dy, g, r)) [] rfl trivial ?_
      exact mm_ri rfl (mm_at ok_Mo_child (i := 25) rfl).1 ⟨Nat.le_refl _, Nat.le_refl _⟩ (hbad (by unfold ch_; rw [hx1]; cases ag_ a with | none => rfl | some y => exact if_neg (by omega)))
    · have h3 := (nI_leI (by omega) (by omega)).mp (Int32.not_lt.mp h3)
      refine mm_B ok_Mo_child 13 4 (29, [some (.ref 52), some (.int (nI x)), some (.int a)], [.int 6, .int ((nI x) - (nI x) / 10 * 10)], (hp_SH ++ dy, g, r)) [¬ (10 : Int32) = 0] rfl (show ¬ (10 : Int32) = 0 from ((by decide))) ?_
      rw [e2]
      refine mm_I ok_Mo_child 17 0 29 [some (.ref 52), some (.int (nI x)), some (.int a)] [.int 6, .int (nI (x % 10))] (hp_SH ++ dy, g, r) [] rfl trivial rfl rfl (fun h2 => ?_) (fun h2 => ?_)
      · have h2 := (nI_leI (a := 6) (by decide) (by omega)).mp h2
        refine mm_B ok_Mo_child 24 1 (48, [some (.ref 52), some (.int (nI x)), some (.int a)], [.int (-2)], (hp_SH ++ dy, g, r)) [] rfl trivial ?_
        exact mm_ri rfl (mm_at ok_Mo_child (i := 25) rfl).1 ⟨Nat.le_refl _, Nat.le_refl _⟩ (hbad (by unfold ch_; rw [hx1]; cases ag_ a with | none => rfl | some y => exact if_neg (by omega)))
      · have h2 : x % 10 < 6 := by
          rcases Nat.lt_or_ge (x % 10) 6 with h | h
          · exact h
          · exact absurd ((nI_leI (a := 6) (by decide) (by omega)).mpr h) h2
        refine mm_B ok_Mo_child 18 4 (40, [some (.ref 52), some (.int (nI x)), some (.int a)], [.long 14, .long 5, .long (a).toInt64], (hp_SH ++ dy, g, r)) [] rfl trivial ?_
        refine mm_cS (as := [.long (a).toInt64, .long 5, .long 14]) (st := []) cw_Mo_in lk_Mo_100 sx_Mo_in (mm_at ok_Mo_child (i := 22) rfl).1 (ct_Mo_in (hp_SH ++ dy, g, r) a.toInt64 5 14) (by decide) ⟨by omega, by omega⟩ (Nat.le_of_ble_eq_true rfl) (mm_vs_b (b := 77) rfl (hp_len dy)) (fun v h' hqq => ?_)
        obtain ⟨rfl, hqe⟩ := hqq; rw [hqe, ag_in a]
        cases ha : ag_ a with
        | none =>
          refine mm_I ok_Mo_child 23 0 43 [some (.ref 52), some (.int (nI x)), some (.int a)] [.int (iz_ none)] (hp_SH ++ dy, g, r) [] rfl trivial rfl rfl (fun q => False.elim (q rfl)) (fun _ => ?_)
          refine mm_B ok_Mo_child 24 1 (48, [some (.ref 52), some (.int (nI x)), some (.int a)], [.int (-2)], (hp_SH ++ dy, g, r)) [] rfl trivial ?_
          exact mm_ri rfl (mm_at ok_Mo_child (i := 25) rfl).1 ⟨Nat.le_refl _, Nat.le_refl _⟩ (hbad (by unfold ch_; rw [hx1, ha]))
        | some y =>
          obtain ⟨rfl, hy, hya⟩ := ag_some ha
          have hch : ch_ (nI x) (nI y) = some (x, y) := by unfold ch_; rw [hx1, ha]; exact if_pos ⟨h2, h3⟩
          refine mm_I ok_Mo_child 23 0 43 [some (.ref 52), some (.int (nI x)), some (.int (nI y))] [.int (iz_ (some y))] (hp_SH ++ dy, g, r) [] rfl trivial rfl rfl (fun _ => ?_) (fun q => False.elim (one0 q))
          refine mm_B ok_Mo_child 26 3 (55, [some (.ref 52), some (.int (nI x)), some (.int (nI y))], [.int 6, .int (g 52 14)], (hp_SH ++ dy, g, r)) [] rfl trivial ?_
          rw [e14]
          by_cases hc : A.2.1.1 = 6
          · rw [show an_child A (nI x) (nI y) = (-4, A) by unfold an_child; rw [hch]; exact if_pos hc]
            refine mm_I ok_Mo_child 29 0 55 [some (.ref 52), some (.int (nI x)), some (.int (nI y))] [.int 6, .int (nI A.2.1.1)] (hp_SH ++ dy, g, r) [] rfl trivial rfl rfl (fun q => False.elim (q (by rw [hc]; rfl))) (fun _ => ?_)
            refine mm_B ok_Mo_child 30 1 (60, [some (.ref 52), some (.int (nI x)), some (.int (nI y))], [.int (-4)], (hp_SH ++ dy, g, r)) [] rfl trivial ?_
            exact mm_ri rfl (mm_at ok_Mo_child (i := 31) rfl).1 ⟨Nat.le_refl _, Nat.le_refl _⟩ (RM_q rfl hI fr_.rf)
          · rw [show an_child A (nI x) (nI y) = (nI A.2.1.1, nx_child A (x / 10) (x % 10) y) by unfold an_child; rw [hch]; exact if_neg hc]
            refine mm_I ok_Mo_child 29 0 55 [some (.ref 52), some (.int (nI x)), some (.int (nI y))] [.int 6, .int (nI A.2.1.1)] (hp_SH ++ dy, g, r) [] rfl trivial rfl rfl (fun _ => ?_) (fun q => False.elim (hc ((nI_eq (b := 6) (by omega) (by decide)).mp q)))
            refine mm_B ok_Mo_child 32 32 (113, [some (.ref 52), some (.int (nI x)), some (.int (nI y))], [.int (((g 52 14) + 1) - 1)], (hp_SH ++ dy, mm_up (mm_up (mm_up (mm_up g 59 ((g 52 14).toNatClampNeg) ((nI x) / 10)) 60 ((g 52 14).toNatClampNeg) ((nI x) - (nI x) / 10 * 10)) 61 ((g 52 14).toNatClampNeg) (nI y)) 52 14 ((g 52 14) + 1), r)) [¬ (10 : Int32) = 0, vp_in (g 52 14) 6, ¬ (10 : Int32) = 0, vp_in (g 52 14) 6, vp_in (g 52 14) 6] rfl (show (¬ (10 : Int32) = 0) ∧ (vp_in (g 52 14) 6) ∧ (¬ (10 : Int32) = 0) ∧ (vp_in (g 52 14) 6) ∧ (vp_in (g 52 14) 6) from ⟨((by decide)), ((by first | exact (by rw [e14]; exact nI_vi (show A.2.1.1 < 6 by omega) (by decide)) | decide)), ((by decide)), ((by first | exact (by rw [e14]; exact nI_vi (show A.2.1.1 < 6 by omega) (by decide)) | decide)), ((by first | exact (by rw [e14]; exact nI_vi (show A.2.1.1 < 6 by omega) (by decide)) | decide))⟩) ?_
            rw [e14, nI_1, nI_pred, nI_clamp (show A.2.1.1 < 2 ^ 31 by omega), e2, e1]
            exact mm_ri rfl (mm_at ok_Mo_child (i := 64) rfl).1 ⟨Nat.le_refl _, Nat.le_refl _⟩ (RM_g rfl (MI_child hI (by omega) h3 (by omega) (mm_up_at _ 52 14 _) (mm_up_at _ 59 _ _) (mm_up_at _ 60 _ _) (mm_up_at _ 61 _ _) (fun a j h => by rw [up_off (by omega), up_off (by omega), up_off (by omega), up_off (by omega)])) (fun a j h1 => by rw [up_off (by omega), up_off (by omega), up_off (by omega), up_off (by omega)]))

