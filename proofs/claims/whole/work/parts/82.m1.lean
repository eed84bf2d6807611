/-! ===== the model's calls: given, has, heard, points, best, drawn, known ===== -/
theorem mz_out {k j : Nat} (h : k < 52 ∨ 76 < k) : mz_ k j = false := by
  unfold mz_ mp_ mu_ mj_
  rw [beq_false_of_ne (show k ≠ 52 by omega), beq_false_of_ne (show k ≠ 63 by omega), beq_false_of_ne (show k ≠ 64 by omega), beq_false_of_ne (show k ≠ 65 by omega), beq_false_of_ne (show k ≠ 66 by omega), beq_false_of_ne (show k ≠ 67 by omega), beq_false_of_ne (show k ≠ 68 by omega), beq_false_of_ne (show k ≠ 69 by omega), beq_false_of_ne (show k ≠ 70 by omega), beq_false_of_ne (show k ≠ 71 by omega)]
  rfl
theorem dz_mz : ∀ k j, dz_ k j = false → mz_ k j = false := dz_of mz_nr (fun _ _ h => mz_out h)
theorem beg_ok {C : Nat → List Int32} {ag : Nat → Nat} {g g1 g2 : Nat → Nat → Int32} {pl : Nat → Option Nat} (hF1 : fr_ mu_ g g1) (h63 : ∀ j, j < 5040 → g1 63 j = -1) (h64 : ∀ j, j < 840 → g1 64 j = 1000) (hF2 : fr_ mr67 g1 g2) (h67 : ∀ j, j < 6 → g2 67 j = g1 62 j) (hpl : ∀ b, b < 6 → g 62 b = pl_c (pl b)) : fr_ mz_ g g2 ∧ nh_ C ag g2 ∧ nw_ C ag g2 ∧ ∀ b, b < 6 → g2 67 b = pl_c (pl b) := by
  refine ⟨(hF1.mono (fun k j h => mp_mu k j (mz_mp k j h))).tr (hF2.mono mz_67), fun i hi => Or.inl ?_, fun i hi => Or.inl ?_, fun b hb => ?_⟩
  · rw [hF2 63 i rfl]; exact h63 i hi
  · rw [hF2 64 i rfl]; exact h64 i hi
  · rw [h67 b hb, hF1 62 b rfl]; exact hpl b hb
theorem cm_given (dy : List mm_Sh) (g : Nat → Nat → Int32) (r : (Nat → Nat → Int64) × Nat × (Nat → Int32)) {A : sA} (hI : MI (nr_ g) A) (hSI : SI A) (x b : Int32) : mm_Ct 12 M_Mo_given [.ref 52, .int x, .int b] (hp_SH ++ dy, g, r) 0 0 (RM dy g r A (.int (an_given A x b))) := by
  have hI' := hI
  obtain ⟨hL, hK, hPl, hX, hB, hS, hIm⟩ := hI'
  have hR := dX_R hX
  have h4 := hL.2.1
  have h6 := hK.2.1
  have e10 : g 52 10 = nI A.1.1 := by rw [← nr_eq g (k := 52) (j := 10) rfl]; exact hL.1
  have e14 : g 52 14 = nI A.2.1.1 := by rw [← nr_eq g (k := 52) (j := 14) rfl]; exact hK.1
  have hpl : ∀ b, b < 6 → g 62 b = pl_c (A.2.2.1.1 b) := fun b hb => by rw [← nr_eq g (k := 62) (j := b) rfl]; exact (hPl b hb).1
  have hot : ∀ b, b < 6 → g 62 (6 + b) = pl_c (A.2.2.1.2 b) := fun b hb => by rw [← nr_eq g (k := 62) (j := 6 + b) rfl]; exact (hPl b hb).2
  have hpo : ∀ b l, b < 6 → A.2.2.1.1 b = some l → l < A.1.1 := fun b l hb h => hSI.1 b l hb (Or.inl h)
  refine mm_start pl_Mo (Nat.le_of_ble_eq_true rfl) ?_
  cases hx1 : ix_ 2 x with
  | none =>
    rw [show an_given A x b = (-2) by unfold an_given; rw [hx1]]
    refine mm_B ok_Mo_given 0 4 (4, [some (.ref 52), some (.int x), some (.int b)], [.long 1, .long 0, .long (x).toInt64], (hp_SH ++ dy, g, r)) [] rfl trivial ?_
    refine mm_cS (as := [.long (x).toInt64, .long 0, .long 1]) (st := []) cw_Mo_in lk_Mo_100 sx_Mo_in (mm_at ok_Mo_given (i := 4) rfl).1 (ct_Mo_in (hp_SH ++ dy, g, r) x.toInt64 0 1) (by decide) ⟨by omega, by omega⟩ (Nat.le_of_ble_eq_true rfl) (mm_vs_b (b := 77) rfl (hp_len dy)) (fun v h' hqq => ?_)
    obtain ⟨rfl, hqe⟩ := hqq; rw [hqe]
    rw [in_2 x, hx1]
    refine mm_I ok_Mo_given 5 0 7 [some (.ref 52), some (.int x), some (.int b)] [.int (iz_ none)] (hp_SH ++ dy, g, r) [] rfl trivial rfl rfl (fun _ => ?_) (fun q => False.elim (q rfl))
    refine mm_B ok_Mo_given 21 1 (38, [some (.ref 52), some (.int x), some (.int b)], [.int (-2)], (hp_SH ++ dy, g, r)) [] rfl trivial ?_
    exact mm_ri rfl (mm_at ok_Mo_given (i := 22) rfl).1 ⟨Nat.le_refl _, Nat.le_refl _⟩ (RM_q rfl hI fr_.rf)
  | some i =>
    obtain ⟨hl1, rfl⟩ := ix_some (by omega) hx1
    cases hx2 : ix_ 6 b with
    | none =>
      rw [show an_given A (nI i) b = (-2) by unfold an_given; rw [hx1, hx2]]
      refine mm_B ok_Mo_given 0 4 (4, [some (.ref 52), some (.int (nI i)), some (.int b)], [.long 1, .long 0, .long ((nI i)).toInt64], (hp_SH ++ dy, g, r)) [] rfl trivial ?_
      refine mm_cS (as := [.long ((nI i)).toInt64, .long 0, .long 1]) (st := []) cw_Mo_in lk_Mo_100 sx_Mo_in (mm_at ok_Mo_given (i := 4) rfl).1 (ct_Mo_in (hp_SH ++ dy, g, r) (nI i).toInt64 0 1) (by decide) ⟨by omega, by omega⟩ (Nat.le_of_ble_eq_true rfl) (mm_vs_b (b := 77) rfl (hp_len dy)) (fun v h' hqq => ?_)
      obtain ⟨rfl, hqe⟩ := hqq; rw [hqe]
      rw [in_2 (nI i), ix_at hl1 (by omega)]
      refine mm_I ok_Mo_given 5 0 7 [some (.ref 52), some (.int (nI i)), some (.int b)] [.int (iz_ (some i))] (hp_SH ++ dy, g, r) [] rfl trivial rfl rfl (fun q => False.elim (one0 q)) (fun _ => ?_)
      refine mm_B ok_Mo_given 6 4 (16, [some (.ref 52), some (.int (nI i)), some (.int b)], [.long 5, .long 0, .long (b).toInt64], (hp_SH ++ dy, g, r)) [] rfl trivial ?_
      refine mm_cS (as := [.long (b).toInt64, .long 0, .long 5]) (st := []) cw_Mo_in lk_Mo_100 sx_Mo_in (mm_at ok_Mo_given (i := 10) rfl).1 (ct_Mo_in (hp_SH ++ dy, g, r) b.toInt64 0 5) (by decide) ⟨by omega, by omega⟩ (Nat.le_of_ble_eq_true rfl) (mm_vs_b (b := 77) rfl (hp_len dy)) (fun v h' hqq => ?_)
      obtain ⟨rfl, hqe⟩ := hqq; rw [hqe]
      rw [in_6 b, hx2]
      refine mm_I ok_Mo_given 11 0 19 [some (.ref 52), some (.int (nI i)), some (.int b)] [.int (iz_ none)] (hp_SH ++ dy, g, r) [] rfl trivial rfl rfl (fun _ => ?_) (fun q => False.elim (q rfl))
      refine mm_B ok_Mo_given 21 1 (38, [some (.ref 52), some (.int (nI i)), some (.int b)], [.int (-2)], (hp_SH ++ dy, g, r)) [] rfl trivial ?_
      exact mm_ri rfl (mm_at ok_Mo_given (i := 22) rfl).1 ⟨Nat.le_refl _, Nat.le_refl _⟩ (RM_q rfl hI fr_.rf)
    | some j =>
      obtain ⟨hl2, rfl⟩ := ix_some (by omega) hx2
      rw [show an_given A (nI i) (nI j) = pl_c (if i = 0 then A.2.2.1.1 j else A.2.2.1.2 j) from by unfold an_given; rw [hx1, hx2]]
      have e6 : (6 : Int32) * nI i + nI j = nI (6 * i + j) := by rw [show (6 : Int32) * nI i = nI (6 * i) from (Int32.ofNat_mul 6 i).symm, nI_add]
      refine mm_B ok_Mo_given 0 4 (4, [some (.ref 52), some (.int (nI i)), some (.int (nI j))], [.long 1, .long 0, .long ((nI i)).toInt64], (hp_SH ++ dy, g, r)) [] rfl trivial ?_
      refine mm_cS (as := [.long ((nI i)).toInt64, .long 0, .long 1]) (st := []) cw_Mo_in lk_Mo_100 sx_Mo_in (mm_at ok_Mo_given (i := 4) rfl).1 (ct_Mo_in (hp_SH ++ dy, g, r) (nI i).toInt64 0 1) (by decide) ⟨by omega, by omega⟩ (Nat.le_of_ble_eq_true rfl) (mm_vs_b (b := 77) rfl (hp_len dy)) (fun v h' hqq => ?_)
      obtain ⟨rfl, hqe⟩ := hqq; rw [hqe]
      rw [in_2 (nI i), ix_at hl1 (by omega)]
      refine mm_I ok_Mo_given 5 0 7 [some (.ref 52), some (.int (nI i)), some (.int (nI j))] [.int (iz_ (some i))] (hp_SH ++ dy, g, r) [] rfl trivial rfl rfl (fun q => False.elim (one0 q)) (fun _ => ?_)
      refine mm_B ok_Mo_given 6 4 (16, [some (.ref 52), some (.int (nI i)), some (.int (nI j))], [.long 5, .long 0, .long ((nI j)).toInt64], (hp_SH ++ dy, g, r)) [] rfl trivial ?_
      refine mm_cS (as := [.long ((nI j)).toInt64, .long 0, .long 5]) (st := []) cw_Mo_in lk_Mo_100 sx_Mo_in (mm_at ok_Mo_given (i := 10) rfl).1 (ct_Mo_in (hp_SH ++ dy, g, r) (nI j).toInt64 0 5) (by decide) ⟨by omega, by omega⟩ (Nat.le_of_ble_eq_true rfl) (mm_vs_b (b := 77) rfl (hp_len dy)) (fun v h' hqq => ?_)
      obtain ⟨rfl, hqe⟩ := hqq; rw [hqe]
      rw [in_6 (nI j), ix_at hl2 (by omega)]
      refine mm_I ok_Mo_given 11 0 19 [some (.ref 52), some (.int (nI i)), some (.int (nI j))] [.int (iz_ (some j))] (hp_SH ++ dy, g, r) [] rfl trivial rfl rfl (fun q => False.elim (one0 q)) (fun _ => ?_)
      refine mm_B ok_Mo_given 12 9 (38, [some (.ref 52), some (.int (nI i)), some (.int (nI j))], [.int (g 62 (((6 * (nI i)) + (nI j)).toNatClampNeg))], (hp_SH ++ dy, g, r)) [vp_in ((6 * (nI i)) + (nI j)) 12] rfl (show vp_in ((6 * (nI i)) + (nI j)) 12 from (by rw [e6]; exact nI_vi (by omega) (by decide))) ?_
      rw [e6, nI_clamp (by omega), show g 62 (6 * i + j) = pl_c (if i = 0 then A.2.2.1.1 j else A.2.2.1.2 j) by rcases (show i = 0 ∨ i = 1 by omega) with rfl | rfl; (rw [if_pos rfl, show 6 * 0 + j = j by omega]; exact hpl j hl2); (rw [if_neg (by decide)]; exact hot j hl2)]
      exact mm_ri rfl (mm_at ok_Mo_given (i := 22) rfl).1 ⟨Nat.le_refl _, Nat.le_refl _⟩ (RM_q rfl hI fr_.rf)
theorem cm_has (dy : List mm_Sh) (g : Nat → Nat → Int32) (r : (Nat → Nat → Int64) × Nat × (Nat → Int32)) {A : sA} (hI : MI (nr_ g) A) (hSI : SI A) (x b : Int32) : mm_Ct 75 M_Mo_has [.ref 52, .int x, .int b] (hp_SH ++ dy, g, r) 0 0 (RM dy g r A (.int (an_has A x b))) := by
  have hI' := hI
  obtain ⟨hL, hK, hPl, hX, hB, hS, hIm⟩ := hI'
  have hR := dX_R hX
  have h4 := hL.2.1
  have h6 := hK.2.1
  have e10 : g 52 10 = nI A.1.1 := by rw [← nr_eq g (k := 52) (j := 10) rfl]; exact hL.1
  have e14 : g 52 14 = nI A.2.1.1 := by rw [← nr_eq g (k := 52) (j := 14) rfl]; exact hK.1
  have hpl : ∀ b, b < 6 → g 62 b = pl_c (A.2.2.1.1 b) := fun b hb => by rw [← nr_eq g (k := 62) (j := b) rfl]; exact (hPl b hb).1
  have hot : ∀ b, b < 6 → g 62 (6 + b) = pl_c (A.2.2.1.2 b) := fun b hb => by rw [← nr_eq g (k := 62) (j := 6 + b) rfl]; exact (hPl b hb).2
  have hpo : ∀ b l, b < 6 → A.2.2.1.1 b = some l → l < A.1.1 := fun b l hb h => hSI.1 b l hb (Or.inl h)
  refine mm_start pl_Mo (Nat.le_of_ble_eq_true rfl) ?_
  cases hx1 : ix_ A.2.1.1 x with
  | none =>
    rw [show an_has A x b = (-2) by unfold an_has; rw [hx1]]
    refine mm_B ok_Mo_has 0 2 (2, [some (.ref 52), some (.int x), some (.int b)], [.int x, .ref 52], (hp_SH ++ dy, g, r)) [] rfl trivial ?_
    refine mm_cV (as := [.int x]) (st := []) (q := 52) cw_Mo_isChild lk_Mo_121 in_Mo_isChild sl_Mo_isChild rfl rfl (mm_at ok_Mo_has (i := 2) rfl).1 (ct_Mo_isChild dy g r x) (by decide) ⟨by omega, by omega⟩ (Nat.le_of_ble_eq_true rfl) (mm_vs_b (b := 77) rfl (hp_len dy)) (fun v h' hqq => ?_)
    obtain ⟨rfl, hqe⟩ := hqq; rw [hqe]
    rw [mc_x (by omega) e14 x, hx1]
    refine mm_I ok_Mo_has 3 0 5 [some (.ref 52), some (.int x), some (.int b)] [.int (iz_ none)] (hp_SH ++ dy, g, r) [] rfl trivial rfl rfl (fun _ => ?_) (fun q => False.elim (q rfl))
    refine mm_B ok_Mo_has 10 1 (22, [some (.ref 52), some (.int x), some (.int b)], [.int (-2)], (hp_SH ++ dy, g, r)) [] rfl trivial ?_
    exact mm_ri rfl (mm_at ok_Mo_has (i := 11) rfl).1 ⟨Nat.le_refl _, Nat.le_refl _⟩ (RM_q rfl hI fr_.rf)
  | some i =>
    obtain ⟨hl1, rfl⟩ := ix_some (by omega) hx1
    cases hx2 : ix_ 6 b with
    | none =>
      rw [show an_has A (nI i) b = (-2) by unfold an_has; rw [hx1, hx2]]
      refine mm_B ok_Mo_has 0 2 (2, [some (.ref 52), some (.int (nI i)), some (.int b)], [.int (nI i), .ref 52], (hp_SH ++ dy, g, r)) [] rfl trivial ?_
      refine mm_cV (as := [.int (nI i)]) (st := []) (q := 52) cw_Mo_isChild lk_Mo_121 in_Mo_isChild sl_Mo_isChild rfl rfl (mm_at ok_Mo_has (i := 2) rfl).1 (ct_Mo_isChild dy g r (nI i)) (by decide) ⟨by omega, by omega⟩ (Nat.le_of_ble_eq_true rfl) (mm_vs_b (b := 77) rfl (hp_len dy)) (fun v h' hqq => ?_)
      obtain ⟨rfl, hqe⟩ := hqq; rw [hqe]
      rw [mc_x (by omega) e14 (nI i), ix_at hl1 (by omega)]
      refine mm_I ok_Mo_has 3 0 5 [some (.ref 52), some (.int (nI i)), some (.int b)] [.int (iz_ (some i))] (hp_SH ++ dy, g, r) [] rfl trivial rfl rfl (fun q => False.elim (one0 q)) (fun _ => ?_)
      refine mm_B ok_Mo_has 4 4 (14, [some (.ref 52), some (.int (nI i)), some (.int b)], [.long 5, .long 0, .long (b).toInt64], (hp_SH ++ dy, g, r)) [] rfl trivial ?_
      refine mm_cS (as := [.long (b).toInt64, .long 0, .long 5]) (st := []) cw_Mo_in lk_Mo_100 sx_Mo_in (mm_at ok_Mo_has (i := 8) rfl).1 (ct_Mo_in (hp_SH ++ dy, g, r) b.toInt64 0 5) (by decide) ⟨by omega, by omega⟩ (Nat.le_of_ble_eq_true rfl) (mm_vs_b (b := 77) rfl (hp_len dy)) (fun v h' hqq => ?_)
      obtain ⟨rfl, hqe⟩ := hqq; rw [hqe]
      rw [in_6 b, hx2]
      refine mm_I ok_Mo_has 9 0 17 [some (.ref 52), some (.int (nI i)), some (.int b)] [.int (iz_ none)] (hp_SH ++ dy, g, r) [] rfl trivial rfl rfl (fun q => False.elim (q rfl)) (fun _ => ?_)
      refine mm_B ok_Mo_has 10 1 (22, [some (.ref 52), some (.int (nI i)), some (.int b)], [.int (-2)], (hp_SH ++ dy, g, r)) [] rfl trivial ?_
      exact mm_ri rfl (mm_at ok_Mo_has (i := 11) rfl).1 ⟨Nat.le_refl _, Nat.le_refl _⟩ (RM_q rfl hI fr_.rf)
    | some j =>
      obtain ⟨hl2, rfl⟩ := ix_some (by omega) hx2
      rw [show an_has A (nI i) (nI j) = nI (sp_has A.1 (sp_run A.1 (sp_H (aC A) A.2.1.2.2.2 i) A.2.2.1.1 (A.2.1.2.1 i) (A.2.1.2.2.1 i) (j + 1)).2 j) from by unfold an_has; rw [hx1, hx2]]
      obtain ⟨k1, k2, k3, k4, k5⟩ := hK.2.2 i hl1
      have e59 : g 59 (nI i).toNatClampNeg = nI (A.2.1.2.1 i) := by rw [nI_clamp (by omega), ← nr_eq g (k := 59) (j := i) rfl]; exact k1
      have e60 : g 60 (nI i).toNatClampNeg = nI (A.2.1.2.2.1 i) := by rw [nI_clamp (by omega), ← nr_eq g (k := 60) (j := i) rfl]; exact k2
      refine mm_B ok_Mo_has 0 2 (2, [some (.ref 52), some (.int (nI i)), some (.int (nI j))], [.int (nI i), .ref 52], (hp_SH ++ dy, g, r)) [] rfl trivial ?_
      refine mm_cV (as := [.int (nI i)]) (st := []) (q := 52) cw_Mo_isChild lk_Mo_121 in_Mo_isChild sl_Mo_isChild rfl rfl (mm_at ok_Mo_has (i := 2) rfl).1 (ct_Mo_isChild dy g r (nI i)) (by decide) ⟨by omega, by omega⟩ (Nat.le_of_ble_eq_true rfl) (mm_vs_b (b := 77) rfl (hp_len dy)) (fun v h' hqq => ?_)
      obtain ⟨rfl, hqe⟩ := hqq; rw [hqe]
      rw [mc_x (by omega) e14 (nI i), ix_at hl1 (by omega)]
      refine mm_I ok_Mo_has 3 0 5 [some (.ref 52), some (.int (nI i)), some (.int (nI j))] [.int (iz_ (some i))] (hp_SH ++ dy, g, r) [] rfl trivial rfl rfl (fun q => False.elim (one0 q)) (fun _ => ?_)
      refine mm_B ok_Mo_has 4 4 (14, [some (.ref 52), some (.int (nI i)), some (.int (nI j))], [.long 5, .long 0, .long ((nI j)).toInt64], (hp_SH ++ dy, g, r)) [] rfl trivial ?_
      refine mm_cS (as := [.long ((nI j)).toInt64, .long 0, .long 5]) (st := []) cw_Mo_in lk_Mo_100 sx_Mo_in (mm_at ok_Mo_has (i := 8) rfl).1 (ct_Mo_in (hp_SH ++ dy, g, r) (nI j).toInt64 0 5) (by decide) ⟨by omega, by omega⟩ (Nat.le_of_ble_eq_true rfl) (mm_vs_b (b := 77) rfl (hp_len dy)) (fun v h' hqq => ?_)
      obtain ⟨rfl, hqe⟩ := hqq; rw [hqe]
      rw [in_6 (nI j), ix_at hl2 (by omega)]
      refine mm_I ok_Mo_has 9 0 17 [some (.ref 52), some (.int (nI i)), some (.int (nI j))] [.int (iz_ (some j))] (hp_SH ++ dy, g, r) [] rfl trivial rfl rfl (fun _ => ?_) (fun q => False.elim (one0 q))
      refine mm_B ok_Mo_has 12 1 (24, [some (.ref 52), some (.int (nI i)), some (.int (nI j))], [.ref 52], (hp_SH ++ dy, g, r)) [] rfl trivial ?_
      refine mm_cV (as := []) (st := []) (q := 52) cw_Mo_forgets lk_Mo_298 in_Mo_forgets sl_Mo_forgets rfl rfl (mm_at ok_Mo_has (i := 13) rfl).1 (ct_Mo_forgets dy g r) (by decide) ⟨by omega, by omega⟩ (Nat.le_of_ble_eq_true rfl) (mm_vs_b (b := 77) rfl (hp_len dy)) (fun v h' hqq => ?_)
      obtain ⟨rfl, g1, hqe, hF1, h63, h64⟩ := hqq; rw [hqe]
      refine mm_B ok_Mo_has 14 1 (28, [some (.ref 52), some (.int (nI i)), some (.int (nI j))], [.ref 52], (hp_SH ++ dy, g1, r)) [] rfl trivial ?_
      refine mm_cV (as := []) (st := []) (q := 52) cw_Mo_takesPlan lk_Mo_301 in_Mo_takesPlan sl_Mo_takesPlan rfl rfl (mm_at ok_Mo_has (i := 15) rfl).1 (ct_Mo_takesPlan dy g1 r) (by decide) ⟨by omega, by omega⟩ (Nat.le_of_ble_eq_true rfl) (mm_vs_b (b := 77) rfl (hp_len dy)) (fun v h' hqq => ?_)
      obtain ⟨rfl, g2, hqe, hF2, h67⟩ := hqq; rw [hqe]
      obtain ⟨hF, hnh, hnw, h67'⟩ := beg_ok (C := aC A) (ag := A.2.1.2.2.2) hF1 h63 h64 hF2 h67 hpl
      have hP2 := hF.nr mz_nr (rfl : nr_ g = nr_ g)
      refine mm_B ok_Mo_has 16 10 (45, [some (.ref 52), some (.int (nI i)), some (.int (nI j))], [.int (g2 60 ((nI i).toNatClampNeg)), .int (g2 59 ((nI i).toNatClampNeg)), .int (nI i), .ref 52], (hp_SH ++ dy, g2, r)) [vp_in (nI i) 6, vp_in (nI i) 6] rfl (show (vp_in (nI i) 6) ∧ (vp_in (nI i) 6) from ⟨(nI_vi (by omega) (by decide)), (nI_vi (by omega) (by decide))⟩) ?_
      rw [show g2 59 (nI i).toNatClampNeg = nI (A.2.1.2.1 i) by rw [hF 59 _ rfl]; exact e59, show g2 60 (nI i).toNatClampNeg = nI (A.2.1.2.2.1 i) by rw [hF 60 _ rfl]; exact e60]
      refine mm_cV (as := [.int (nI i), .int (nI (A.2.1.2.1 i)), .int (nI (A.2.1.2.2.1 i))]) (st := []) (q := 52) cw_Mo_spring lk_Mo_288 in_Mo_spring sl_Mo_spring rfl rfl (mm_at ok_Mo_has (i := 26) rfl).1 (ct_Mo_spring dy g2 (nr_ g) r hP2 hR hL (ag := A.2.1.2.2.2) (c := i) (on := A.2.1.2.1 i) (off := A.2.1.2.2.1 i) (by omega) (by omega) (by omega) h67' hpo k5 hnh) (by decide) ⟨by omega, by omega⟩ (Nat.le_of_ble_eq_true rfl) (mm_vs_b (b := 77) rfl (hp_len dy)) (fun v h' hqq => ?_)
      obtain ⟨rfl, g3, r3, hqe, hr3, hF3, h364, hnh3, hrw, h68⟩ := hqq; rw [hqe]
      refine mm_B ok_Mo_has 27 4 (54, [some (.ref 52), some (.int (nI i)), some (.int (nI j))], [.int (g3 68 ((nI j).toNatClampNeg))], (hp_SH ++ dy, g3, r3)) [vp_in (nI j) 6] rfl (show vp_in (nI j) 6 from (nI_vi (by omega) (by decide))) ?_
      rw [nI_clamp (show j < 2 ^ 31 by omega), h68 j hl2]
      exact mm_ri rfl (mm_at ok_Mo_has (i := 31) rfl).1 ⟨Nat.le_refl _, Nat.le_refl _⟩ (RM_q hr3 hI ((hF.tr (hF3.mono mz_mp)).mono dz_mz))
theorem cm_heard (dy : List mm_Sh) (g : Nat → Nat → Int32) (r : (Nat → Nat → Int64) × Nat × (Nat → Int32)) {A : sA} (hI : MI (nr_ g) A) (hSI : SI A) (x l w : Int32) : mm_Ct 75 M_Mo_heard [.ref 52, .int x, .int l, .int w] (hp_SH ++ dy, g, r) 0 0 (RM dy g r A (.int (an_heard A x l w))) := by
  have hI' := hI
  obtain ⟨hL, hK, hPl, hX, hB, hS, hIm⟩ := hI'
  have hR := dX_R hX
  have h4 := hL.2.1
  have h6 := hK.2.1
  have e10 : g 52 10 = nI A.1.1 := by rw [← nr_eq g (k := 52) (j := 10) rfl]; exact hL.1
  have e14 : g 52 14 = nI A.2.1.1 := by rw [← nr_eq g (k := 52) (j := 14) rfl]; exact hK.1
  have hpl : ∀ b, b < 6 → g 62 b = pl_c (A.2.2.1.1 b) := fun b hb => by rw [← nr_eq g (k := 62) (j := b) rfl]; exact (hPl b hb).1
  have hot : ∀ b, b < 6 → g 62 (6 + b) = pl_c (A.2.2.1.2 b) := fun b hb => by rw [← nr_eq g (k := 62) (j := 6 + b) rfl]; exact (hPl b hb).2
  have hpo : ∀ b l, b < 6 → A.2.2.1.1 b = some l → l < A.1.1 := fun b l hb h => hSI.1 b l hb (Or.inl h)
  refine mm_start pl_Mo (Nat.le_of_ble_eq_true rfl) ?_
  cases hx1 : ix_ A.2.1.1 x with
  | none =>
    rw [show an_heard A x l w = (-2) by unfold an_heard; rw [hx1]]
    refine mm_B ok_Mo_heard 0 2 (2, [some (.ref 52), some (.int x), some (.int l), some (.int w)], [.int x, .ref 52], (hp_SH ++ dy, g, r)) [] rfl trivial ?_
    refine mm_cV (as := [.int x]) (st := []) (q := 52) cw_Mo_isChild lk_Mo_121 in_Mo_isChild sl_Mo_isChild rfl rfl (mm_at ok_Mo_heard (i := 2) rfl).1 (ct_Mo_isChild dy g r x) (by decide) ⟨by omega, by omega⟩ (Nat.le_of_ble_eq_true rfl) (mm_vs_b (b := 77) rfl (hp_len dy)) (fun v h' hqq => ?_)
    obtain ⟨rfl, hqe⟩ := hqq; rw [hqe]
    rw [mc_x (by omega) e14 x, hx1]
    refine mm_I ok_Mo_heard 3 0 5 [some (.ref 52), some (.int x), some (.int l), some (.int w)] [.int (iz_ none)] (hp_SH ++ dy, g, r) [] rfl trivial rfl rfl (fun _ => ?_) (fun q => False.elim (q rfl))
    refine mm_B ok_Mo_heard 14 1 (28, [some (.ref 52), some (.int x), some (.int l), some (.int w)], [.int (-2)], (hp_SH ++ dy, g, r)) [] rfl trivial ?_
    exact mm_ri rfl (mm_at ok_Mo_heard (i := 15) rfl).1 ⟨Nat.le_refl _, Nat.le_refl _⟩ (RM_q rfl hI fr_.rf)
  | some i =>
    obtain ⟨hl1, rfl⟩ := ix_some (by omega) hx1
    cases hx2 : ix_ A.1.1 l with
    | none =>
      rw [show an_heard A (nI i) l w = (-2) by unfold an_heard; rw [hx1, hx2]]
      refine mm_B ok_Mo_heard 0 2 (2, [some (.ref 52), some (.int (nI i)), some (.int l), some (.int w)], [.int (nI i), .ref 52], (hp_SH ++ dy, g, r)) [] rfl trivial ?_
      refine mm_cV (as := [.int (nI i)]) (st := []) (q := 52) cw_Mo_isChild lk_Mo_121 in_Mo_isChild sl_Mo_isChild rfl rfl (mm_at ok_Mo_heard (i := 2) rfl).1 (ct_Mo_isChild dy g r (nI i)) (by decide) ⟨by omega, by omega⟩ (Nat.le_of_ble_eq_true rfl) (mm_vs_b (b := 77) rfl (hp_len dy)) (fun v h' hqq => ?_)
      obtain ⟨rfl, hqe⟩ := hqq; rw [hqe]
      rw [mc_x (by omega) e14 (nI i), ix_at hl1 (by omega)]
      refine mm_I ok_Mo_heard 3 0 5 [some (.ref 52), some (.int (nI i)), some (.int l), some (.int w)] [.int (iz_ (some i))] (hp_SH ++ dy, g, r) [] rfl trivial rfl rfl (fun q => False.elim (one0 q)) (fun _ => ?_)
      refine mm_B ok_Mo_heard 4 2 (10, [some (.ref 52), some (.int (nI i)), some (.int l), some (.int w)], [.int l, .ref 52], (hp_SH ++ dy, g, r)) [] rfl trivial ?_
      refine mm_cV (as := [.int l]) (st := []) (q := 52) cw_Mo_isLesson lk_Mo_117 in_Mo_isLesson sl_Mo_isLesson rfl rfl (mm_at ok_Mo_heard (i := 6) rfl).1 (ct_Mo_isLesson dy g r l) (by decide) ⟨by omega, by omega⟩ (Nat.le_of_ble_eq_true rfl) (mm_vs_b (b := 77) rfl (hp_len dy)) (fun v h' hqq => ?_)
      obtain ⟨rfl, hqe⟩ := hqq; rw [hqe]
      rw [ml_x (by omega) e10 l, hx2]
      refine mm_I ok_Mo_heard 7 0 13 [some (.ref 52), some (.int (nI i)), some (.int l), some (.int w)] [.int (iz_ none)] (hp_SH ++ dy, g, r) [] rfl trivial rfl rfl (fun _ => ?_) (fun q => False.elim (q rfl))
      refine mm_B ok_Mo_heard 14 1 (28, [some (.ref 52), some (.int (nI i)), some (.int l), some (.int w)], [.int (-2)], (hp_SH ++ dy, g, r)) [] rfl trivial ?_
      exact mm_ri rfl (mm_at ok_Mo_heard (i := 15) rfl).1 ⟨Nat.le_refl _, Nat.le_refl _⟩ (RM_q rfl hI fr_.rf)
    | some j =>
      obtain ⟨hl2, rfl⟩ := ix_some (by omega) hx2
      cases hx3 : ix_ 2 w with
      | none =>
        rw [show an_heard A (nI i) (nI j) w = (-2) by unfold an_heard; rw [hx1, hx2, hx3]]
        refine mm_B ok_Mo_heard 0 2 (2, [some (.ref 52), some (.int (nI i)), some (.int (nI j)), some (.int w)], [.int (nI i), .ref 52], (hp_SH ++ dy, g, r)) [] rfl trivial ?_
        refine mm_cV (as := [.int (nI i)]) (st := []) (q := 52) cw_Mo_isChild lk_Mo_121 in_Mo_isChild sl_Mo_isChild rfl rfl (mm_at ok_Mo_heard (i := 2) rfl).1 (ct_Mo_isChild dy g r (nI i)) (by decide) ⟨by omega, by omega⟩ (Nat.le_of_ble_eq_true rfl) (mm_vs_b (b := 77) rfl (hp_len dy)) (fun v h' hqq => ?_)
        obtain ⟨rfl, hqe⟩ := hqq; rw [hqe]
        rw [mc_x (by omega) e14 (nI i), ix_at hl1 (by omega)]
        refine mm_I ok_Mo_heard 3 0 5 [some (.ref 52), some (.int (nI i)), some (.int (nI j)), some (.int w)] [.int (iz_ (some i))] (hp_SH ++ dy, g, r) [] rfl trivial rfl rfl (fun q => False.elim (one0 q)) (fun _ => ?_)
        refine mm_B ok_Mo_heard 4 2 (10, [some (.ref 52), some (.int (nI i)), some (.int (nI j)), some (.int w)], [.int (nI j), .ref 52], (hp_SH ++ dy, g, r)) [] rfl trivial ?_
        refine mm_cV (as := [.int (nI j)]) (st := []) (q := 52) cw_Mo_isLesson lk_Mo_117 in_Mo_isLesson sl_Mo_isLesson rfl rfl (mm_at ok_Mo_heard (i := 6) rfl).1 (ct_Mo_isLesson dy g r (nI j)) (by decide) ⟨by omega, by omega⟩ (Nat.le_of_ble_eq_true rfl) (mm_vs_b (b := 77) rfl (hp_len dy)) (fun v h' hqq => ?_)
        obtain ⟨rfl, hqe⟩ := hqq; rw [hqe]
        rw [ml_x (by omega) e10 (nI j), ix_at hl2 (by omega)]
        refine mm_I ok_Mo_heard 7 0 13 [some (.ref 52), some (.int (nI i)), some (.int (nI j)), some (.int w)] [.int (iz_ (some j))] (hp_SH ++ dy, g, r) [] rfl trivial rfl rfl (fun q => False.elim (one0 q)) (fun _ => ?_)
        refine mm_B ok_Mo_heard 8 4 (20, [some (.ref 52), some (.int (nI i)), some (.int (nI j)), some (.int w)], [.long 1, .long 0, .long (w).toInt64], (hp_SH ++ dy, g, r)) [] rfl trivial ?_
        refine mm_cS (as := [.long (w).toInt64, .long 0, .long 1]) (st := []) cw_Mo_in lk_Mo_100 sx_Mo_in (mm_at ok_Mo_heard (i := 12) rfl).1 (ct_Mo_in (hp_SH ++ dy, g, r) w.toInt64 0 1) (by decide) ⟨by omega, by omega⟩ (Nat.le_of_ble_eq_true rfl) (mm_vs_b (b := 77) rfl (hp_len dy)) (fun v h' hqq => ?_)
        obtain ⟨rfl, hqe⟩ := hqq; rw [hqe]
        rw [in_2 w, hx3]
        refine mm_I ok_Mo_heard 13 0 23 [some (.ref 52), some (.int (nI i)), some (.int (nI j)), some (.int w)] [.int (iz_ none)] (hp_SH ++ dy, g, r) [] rfl trivial rfl rfl (fun q => False.elim (q rfl)) (fun _ => ?_)
        refine mm_B ok_Mo_heard 14 1 (28, [some (.ref 52), some (.int (nI i)), some (.int (nI j)), some (.int w)], [.int (-2)], (hp_SH ++ dy, g, r)) [] rfl trivial ?_
        exact mm_ri rfl (mm_at ok_Mo_heard (i := 15) rfl).1 ⟨Nat.le_refl _, Nat.le_refl _⟩ (RM_q rfl hI fr_.rf)
      | some m =>
        obtain ⟨hl3, rfl⟩ := ix_some (by omega) hx3
        rw [show an_heard A (nI i) (nI j) (nI m) = (if m = 0 then nI ((sp_run A.1 (sp_H (aC A) A.2.1.2.2.2 i) A.2.2.1.1 (A.2.1.2.1 i) (A.2.1.2.2.1 i) 6).1 j) else nI ((sp_run A.1 (sp_H (aC A) A.2.1.2.2.2 i) A.2.2.1.1 (A.2.1.2.1 i) (A.2.1.2.2.1 i) 6).2 j) - 1) from by unfold an_heard; rw [hx1, hx2, hx3]]
        have e24 : (24 : Int32) + nI j = nI (24 + j) := nI_add 24 j
        obtain ⟨k1, k2, k3, k4, k5⟩ := hK.2.2 i hl1
        have e59 : g 59 (nI i).toNatClampNeg = nI (A.2.1.2.1 i) := by rw [nI_clamp (by omega), ← nr_eq g (k := 59) (j := i) rfl]; exact k1
        have e60 : g 60 (nI i).toNatClampNeg = nI (A.2.1.2.2.1 i) := by rw [nI_clamp (by omega), ← nr_eq g (k := 60) (j := i) rfl]; exact k2
        refine mm_B ok_Mo_heard 0 2 (2, [some (.ref 52), some (.int (nI i)), some (.int (nI j)), some (.int (nI m))], [.int (nI i), .ref 52], (hp_SH ++ dy, g, r)) [] rfl trivial ?_
        refine mm_cV (as := [.int (nI i)]) (st := []) (q := 52) cw_Mo_isChild lk_Mo_121 in_Mo_isChild sl_Mo_isChild rfl rfl (mm_at ok_Mo_heard (i := 2) rfl).1 (ct_Mo_isChild dy g r (nI i)) (by decide) ⟨by omega, by omega⟩ (Nat.le_of_ble_eq_true rfl) (mm_vs_b (b := 77) rfl (hp_len dy)) (fun v h' hqq => ?_)
        obtain ⟨rfl, hqe⟩ := hqq; rw [hqe]
        rw [mc_x (by omega) e14 (nI i), ix_at hl1 (by omega)]
        refine mm_I ok_Mo_heard 3 0 5 [some (.ref 52), some (.int (nI i)), some (.int (nI j)), some (.int (nI m))] [.int (iz_ (some i))] (hp_SH ++ dy, g, r) [] rfl trivial rfl rfl (fun q => False.elim (one0 q)) (fun _ => ?_)
        refine mm_B ok_Mo_heard 4 2 (10, [some (.ref 52), some (.int (nI i)), some (.int (nI j)), some (.int (nI m))], [.int (nI j), .ref 52], (hp_SH ++ dy, g, r)) [] rfl trivial ?_
        refine mm_cV (as := [.int (nI j)]) (st := []) (q := 52) cw_Mo_isLesson lk_Mo_117 in_Mo_isLesson sl_Mo_isLesson rfl rfl (mm_at ok_Mo_heard (i := 6) rfl).1 (ct_Mo_isLesson dy g r (nI j)) (by decide) ⟨by omega, by omega⟩ (Nat.le_of_ble_eq_true rfl) (mm_vs_b (b := 77) rfl (hp_len dy)) (fun v h' hqq => ?_)
        obtain ⟨rfl, hqe⟩ := hqq; rw [hqe]
        rw [ml_x (by omega) e10 (nI j), ix_at hl2 (by omega)]
        refine mm_I ok_Mo_heard 7 0 13 [some (.ref 52), some (.int (nI i)), some (.int (nI j)), some (.int (nI m))] [.int (iz_ (some j))] (hp_SH ++ dy, g, r) [] rfl trivial rfl rfl (fun q => False.elim (one0 q)) (fun _ => ?_)
        refine mm_B ok_Mo_heard 8 4 (20, [some (.ref 52), some (.int (nI i)), some (.int (nI j)), some (.int (nI m))], [.long 1, .long 0, .long ((nI m)).toInt64], (hp_SH ++ dy, g, r)) [] rfl trivial ?_
        refine mm_cS (as := [.long ((nI m)).toInt64, .long 0, .long 1]) (st := []) cw_Mo_in lk_Mo_100 sx_Mo_in (mm_at ok_Mo_heard (i := 12) rfl).1 (ct_Mo_in (hp_SH ++ dy, g, r) (nI m).toInt64 0 1) (by decide) ⟨by omega, by omega⟩ (Nat.le_of_ble_eq_true rfl) (mm_vs_b (b := 77) rfl (hp_len dy)) (fun v h' hqq => ?_)
        obtain ⟨rfl, hqe⟩ := hqq; rw [hqe]
        rw [in_2 (nI m), ix_at hl3 (by omega)]
        refine mm_I ok_Mo_heard 13 0 23 [some (.ref 52), some (.int (nI i)), some (.int (nI j)), some (.int (nI m))] [.int (iz_ (some m))] (hp_SH ++ dy, g, r) [] rfl trivial rfl rfl (fun _ => ?_) (fun q => False.elim (one0 q))
        refine mm_B ok_Mo_heard 16 1 (30, [some (.ref 52), some (.int (nI i)), some (.int (nI j)), some (.int (nI m))], [.ref 52], (hp_SH ++ dy, g, r)) [] rfl trivial ?_
        refine mm_cV (as := []) (st := []) (q := 52) cw_Mo_forgets lk_Mo_298 in_Mo_forgets sl_Mo_forgets rfl rfl (mm_at ok_Mo_heard (i := 17) rfl).1 (ct_Mo_forgets dy g r) (by decide) ⟨by omega, by omega⟩ (Nat.le_of_ble_eq_true rfl) (mm_vs_b (b := 77) rfl (hp_len dy)) (fun v h' hqq => ?_)
        obtain ⟨rfl, g1, hqe, hF1, h63, h64⟩ := hqq; rw [hqe]
        refine mm_B ok_Mo_heard 18 1 (34, [some (.ref 52), some (.int (nI i)), some (.int (nI j)), some (.int (nI m))], [.ref 52], (hp_SH ++ dy, g1, r)) [] rfl trivial ?_
        refine mm_cV (as := []) (st := []) (q := 52) cw_Mo_takesPlan lk_Mo_301 in_Mo_takesPlan sl_Mo_takesPlan rfl rfl (mm_at ok_Mo_heard (i := 19) rfl).1 (ct_Mo_takesPlan dy g1 r) (by decide) ⟨by omega, by omega⟩ (Nat.le_of_ble_eq_true rfl) (mm_vs_b (b := 77) rfl (hp_len dy)) (fun v h' hqq => ?_)
        obtain ⟨rfl, g2, hqe, hF2, h67⟩ := hqq; rw [hqe]
        obtain ⟨hF, hnh, hnw, h67'⟩ := beg_ok (C := aC A) (ag := A.2.1.2.2.2) hF1 h63 h64 hF2 h67 hpl
        have hP2 := hF.nr mz_nr (rfl : nr_ g = nr_ g)
        refine mm_B ok_Mo_heard 20 10 (51, [some (.ref 52), some (.int (nI i)), some (.int (nI j)), some (.int (nI m))], [.int (g2 60 ((nI i).toNatClampNeg)), .int (g2 59 ((nI i).toNatClampNeg)), .int (nI i), .ref 52], (hp_SH ++ dy, g2, r)) [vp_in (nI i) 6, vp_in (nI i) 6] rfl (show (vp_in (nI i) 6) ∧ (vp_in (nI i) 6) from ⟨(nI_vi (by omega) (by decide)), (nI_vi (by omega) (by decide))⟩) ?_
        rw [show g2 59 (nI i).toNatClampNeg = nI (A.2.1.2.1 i) by rw [hF 59 _ rfl]; exact e59, show g2 60 (nI i).toNatClampNeg = nI (A.2.1.2.2.1 i) by rw [hF 60 _ rfl]; exact e60]
        refine mm_cV (as := [.int (nI i), .int (nI (A.2.1.2.1 i)), .int (nI (A.2.1.2.2.1 i))]) (st := []) (q := 52) cw_Mo_spring lk_Mo_288 in_Mo_spring sl_Mo_spring rfl rfl (mm_at ok_Mo_heard (i := 30) rfl).1 (ct_Mo_spring dy g2 (nr_ g) r hP2 hR hL (ag := A.2.1.2.2.2) (c := i) (on := A.2.1.2.1 i) (off := A.2.1.2.2.1 i) (by omega) (by omega) (by omega) h67' hpo k5 hnh) (by decide) ⟨by omega, by omega⟩ (Nat.le_of_ble_eq_true rfl) (mm_vs_b (b := 77) rfl (hp_len dy)) (fun v h' hqq => ?_)
        obtain ⟨rfl, g3, r3, hqe, hr3, hF3, h364, hnh3, hrw, h68⟩ := hqq; rw [hqe]
        have hrw1 := hrw j (by omega)
        rw [show 4 * 6 + j = 24 + j by omega] at hrw1
        by_cases hm : m = 0
        · rw [hm, if_pos rfl]
          refine mm_I ok_Mo_heard 31 1 55 [some (.ref 52), some (.int (nI i)), some (.int (nI j)), some (.int (nI 0))] [.int (nI 0)] (hp_SH ++ dy, g3, r3) [] rfl trivial rfl rfl (fun q => False.elim (q rfl)) (fun _ => ?_)
          refine mm_B ok_Mo_heard 33 7 (79, [some (.ref 52), some (.int (nI i)), some (.int (nI j)), some (.int (nI 0))], [.int (g3 65 ((24 + (nI j)).toNatClampNeg))], (hp_SH ++ dy, g3, r3)) [vp_in (24 + (nI j)) 28] rfl (show vp_in (24 + (nI j)) 28 from (by rw [e24]; exact nI_vi (by omega) (by decide))) ?_
          rw [e24, nI_clamp (by omega), hrw1.1]
          exact mm_ri rfl (mm_at ok_Mo_heard (i := 46) rfl).1 ⟨Nat.le_refl _, Nat.le_refl _⟩ (RM_q hr3 hI ((hF.tr (hF3.mono mz_mp)).mono dz_mz))
        · rw [if_neg hm]
          refine mm_I ok_Mo_heard 31 1 55 [some (.ref 52), some (.int (nI i)), some (.int (nI j)), some (.int (nI m))] [.int (nI m)] (hp_SH ++ dy, g3, r3) [] rfl trivial rfl rfl (fun _ => ?_) (fun q => False.elim (nI_ne0 (by omega) (by omega) q))
          refine mm_B ok_Mo_heard 40 6 (79, [some (.ref 52), some (.int (nI i)), some (.int (nI j)), some (.int (nI m))], [.int (g3 66 ((24 + (nI j)).toNatClampNeg))], (hp_SH ++ dy, g3, r3)) [vp_in (24 + (nI j)) 28] rfl (show vp_in (24 + (nI j)) 28 from (by rw [e24]; exact nI_vi (by omega) (by decide))) ?_
          rw [e24, nI_clamp (by omega), hrw1.2]
          exact mm_ri rfl (mm_at ok_Mo_heard (i := 46) rfl).1 ⟨Nat.le_refl _, Nat.le_refl _⟩ (RM_q hr3 hI ((hF.tr (hF3.mono mz_mp)).mono dz_mz))
theorem cm_best (dy : List mm_Sh) (g : Nat → Nat → Int32) (r : (Nat → Nat → Int64) × Nat × (Nat → Int32)) {A : sA} (hI : MI (nr_ g) A) (hSI : SI A) (w : Int32) : mm_Ct 75 M_Mo_best [.ref 52, .int w] (hp_SH ++ dy, g, r) 0 0 (RM dy g r A (.int (an_best A w))) := by
  have hI' := hI
  obtain ⟨hL, hK, hPl, hX, hB, hS, hIm⟩ := hI'
  have hR := dX_R hX
  have h4 := hL.2.1
  have h6 := hK.2.1
  have e10 : g 52 10 = nI A.1.1 := by rw [← nr_eq g (k := 52) (j := 10) rfl]; exact hL.1
  have e14 : g 52 14 = nI A.2.1.1 := by rw [← nr_eq g (k := 52) (j := 14) rfl]; exact hK.1
  have hpl : ∀ b, b < 6 → g 62 b = pl_c (A.2.2.1.1 b) := fun b hb => by rw [← nr_eq g (k := 62) (j := b) rfl]; exact (hPl b hb).1
  have hot : ∀ b, b < 6 → g 62 (6 + b) = pl_c (A.2.2.1.2 b) := fun b hb => by rw [← nr_eq g (k := 62) (j := 6 + b) rfl]; exact (hPl b hb).2
  have hpo : ∀ b l, b < 6 → A.2.2.1.1 b = some l → l < A.1.1 := fun b l hb h => hSI.1 b l hb (Or.inl h)
  refine mm_start pl_Mo (Nat.le_of_ble_eq_true rfl) ?_
  cases hx1 : ix_ 7 w with
  | none =>
    rw [show an_best A w = (-2) by unfold an_best; rw [hx1]]
    refine mm_B ok_Mo_best 0 4 (6, [some (.ref 52), some (.int w)], [.long 6, .long 0, .long (w).toInt64], (hp_SH ++ dy, g, r)) [] rfl trivial ?_
    refine mm_cS (as := [.long (w).toInt64, .long 0, .long 6]) (st := []) cw_Mo_in lk_Mo_100 sx_Mo_in (mm_at ok_Mo_best (i := 4) rfl).1 (ct_Mo_in (hp_SH ++ dy, g, r) w.toInt64 0 6) (by decide) ⟨by omega, by omega⟩ (Nat.le_of_ble_eq_true rfl) (mm_vs_b (b := 77) rfl (hp_len dy)) (fun v h' hqq => ?_)
    obtain ⟨rfl, hqe⟩ := hqq; rw [hqe]
    rw [in_7 w, hx1]
    refine mm_I ok_Mo_best 5 0 9 [some (.ref 52), some (.int w)] [.int (iz_ none)] (hp_SH ++ dy, g, r) [] rfl trivial rfl rfl (fun q => False.elim (q rfl)) (fun _ => ?_)
    refine mm_B ok_Mo_best 6 1 (14, [some (.ref 52), some (.int w)], [.int (-2)], (hp_SH ++ dy, g, r)) [] rfl trivial ?_
    exact mm_ri rfl (mm_at ok_Mo_best (i := 7) rfl).1 ⟨Nat.le_refl _, Nat.le_refl _⟩ (RM_q rfl hI fr_.rf)
  | some j =>
    obtain ⟨hl1, rfl⟩ := ix_some (by omega) hx1
    refine mm_B ok_Mo_best 0 4 (6, [some (.ref 52), some (.int (nI j))], [.long 6, .long 0, .long ((nI j)).toInt64], (hp_SH ++ dy, g, r)) [] rfl trivial ?_
    refine mm_cS (as := [.long ((nI j)).toInt64, .long 0, .long 6]) (st := []) cw_Mo_in lk_Mo_100 sx_Mo_in (mm_at ok_Mo_best (i := 4) rfl).1 (ct_Mo_in (hp_SH ++ dy, g, r) (nI j).toInt64 0 6) (by decide) ⟨by omega, by omega⟩ (Nat.le_of_ble_eq_true rfl) (mm_vs_b (b := 77) rfl (hp_len dy)) (fun v h' hqq => ?_)
    obtain ⟨rfl, hqe⟩ := hqq; rw [hqe]
    rw [in_7 (nI j), ix_at hl1 (by omega)]
    refine mm_I ok_Mo_best 5 0 9 [some (.ref 52), some (.int (nI j))] [.int (iz_ (some j))] (hp_SH ++ dy, g, r) [] rfl trivial rfl rfl (fun _ => ?_) (fun q => False.elim (one0 q))
    refine mm_B ok_Mo_best 8 1 (16, [some (.ref 52), some (.int (nI j))], [.ref 52], (hp_SH ++ dy, g, r)) [] rfl trivial ?_
    refine mm_cV (as := []) (st := []) (q := 52) cw_Mo_seeks lk_Mo_315 in_Mo_seeks sl_Mo_seeks rfl rfl (mm_at ok_Mo_best (i := 9) rfl).1 (ct_Mo_seeks dy g (nr_ g) r rfl hR hL hK) (by decide) ⟨by omega, by omega⟩ (Nat.le_of_ble_eq_true rfl) (mm_vs_b (b := 77) rfl (hp_len dy)) (fun v h' hqq => ?_)
    obtain ⟨rfl, g1, r1, hqe, hr1, hF1, h39, h70⟩ := hqq; rw [hqe]
    rcases Nat.eq_zero_or_pos j with hj | hj
    · subst hj
      rw [show an_best A (nI 0) = nI (bw_ A.1 (aC A) A.2.1) by unfold an_best; rw [hx1]]
      refine mm_I ok_Mo_best 10 1 20 [some (.ref 52), some (.int (nI 0))] [.int (nI 0)] (hp_SH ++ dy, g1, r1) [] rfl trivial rfl rfl (fun q => False.elim (q rfl)) (fun _ => ?_)
      refine mm_B ok_Mo_best 12 3 (38, [some (.ref 52), some (.int (nI 0))], [.int (g1 52 39)], (hp_SH ++ dy, g1, r1)) [] rfl trivial ?_
      rw [h39]
      exact mm_ri rfl (mm_at ok_Mo_best (i := 21) rfl).1 ⟨Nat.le_refl _, Nat.le_refl _⟩ (RM_q hr1 hI (hF1.mono dz_mz))
    · obtain ⟨b, rfl⟩ : ∃ b, j = b + 1 := ⟨j - 1, by omega⟩
      rw [show an_best A (nI (b + 1)) = pl_c (dec_ (A.1.1 + 1) (bc_ A.1 (aC A) A.2.1) b) by unfold an_best; rw [hx1]]
      have e1 : nI (b + 1) - 1 = nI b := nI_sub (a := b + 1) (b := 1) (by omega)
      refine mm_I ok_Mo_best 10 1 20 [some (.ref 52), some (.int (nI (b + 1)))] [.int (nI (b + 1))] (hp_SH ++ dy, g1, r1) [] rfl trivial rfl rfl (fun _ => ?_) (fun q => False.elim (nI_ne0 (by omega) (by omega) q))
      refine mm_B ok_Mo_best 15 6 (38, [some (.ref 52), some (.int (nI (b + 1)))], [.int (g1 70 (((nI (b + 1)) - 1).toNatClampNeg))], (hp_SH ++ dy, g1, r1)) [vp_in ((nI (b + 1)) - 1) 6] rfl (show vp_in ((nI (b + 1)) - 1) 6 from (by rw [e1]; exact nI_vi (by omega) (by decide))) ?_
      rw [e1, nI_clamp (show b < 2 ^ 31 by omega), h70 b (by omega)]
      exact mm_ri rfl (mm_at ok_Mo_best (i := 21) rfl).1 ⟨Nat.le_refl _, Nat.le_refl _⟩ (RM_q hr1 hI (hF1.mono dz_mz))
theorem fl_go (dy : List mm_Sh) (g : Nat → Nat → Int32) (r : (Nat → Nat → Int64) × Nat × (Nat → Int32)) {pl : Nat → Option Nat} (hpl : ∀ b, b < 6 → g 62 b = pl_c (pl b)) (s w : Int32) : ∀ (m k : Nat) (g1 : Nat → Nat → Int32), k + m = 6 → fr_ mr67 g g1 → (∀ j, j < k → g1 67 j = pl_c (dr_ pl s w j)) → mm_W 1 M_Mo_floods 0 0 (fun v h' => v = none ∧ ∃ g', h' = (hp_SH ++ dy, g', r) ∧ fr_ mr67 g g' ∧ ∀ b, b < 6 → g' 67 b = pl_c (dr_ pl s w b)) 0 0 (5, [some (.ref 52), some (.int s), some (.int w), some (.int (zz_ s k)), some (.int (nI k))], [], (hp_SH ++ dy, g1, r)) := by
  intro m
  induction m with
  | zero =>
    intro k g1 hk hF hd
    refine mm_I ok_Mo_floods 4 2 9 [some (.ref 52), some (.int s), some (.int w), some (.int (zz_ s k)), some (.int (nI k))] [.int 6, .int (nI k)] (hp_SH ++ dy, g1, r) [] rfl trivial rfl rfl (fun _ => ?_) (fun q => False.elim (q (nI_le (a := 6) (b := k) (by omega) (by omega))))
    exact mm_r0 rfl (mm_at ok_Mo_floods (i := 32) rfl).1 ⟨Nat.le_refl _, Nat.le_refl _⟩ (⟨rfl, g1, rfl, hF, fun b hb => hd b (by omega)⟩)
  | succ m ih =>
    intro k g1 hk hF hd
    have e9 : g1 62 k = pl_c (pl k) := by rw [hF 62 k rfl]; exact hpl k (by omega)
    have hs : ∀ z, pl_c (dr_ pl s w k) = z → ∀ j, j < k + 1 → mm_up g1 67 k z 67 j = pl_c (dr_ pl s w j) := fun z hz j hj => by
      by_cases e : j = k
      · rw [e, mm_up_at, hz]
      · rw [mm_up_no e]; exact hd j (by omega)
    refine mm_I ok_Mo_floods 4 2 9 [some (.ref 52), some (.int s), some (.int w), some (.int (zz_ s k)), some (.int (nI k))] [.int 6, .int (nI k)] (hp_SH ++ dy, g1, r) [] rfl trivial rfl rfl (fun q => False.elim (nI_ge (b := 6) (show k < 6 by omega) (by decide) q)) (fun _ => ?_)
    refine mm_I ok_Mo_floods 7 15 36 [some (.ref 52), some (.int s), some (.int w), some (.int (((zz_ s k) * 1103515245) + 12345)), some (.int (nI k))] [.int w, .int ((((((zz_ s k) * 1103515245) + 12345).toUInt32 >>> ((11 : Int32).toUInt32 &&& Int32.toUInt32 31)).toInt32) - (((((zz_ s k) * 1103515245) + 12345).toUInt32 >>> ((11 : Int32).toUInt32 &&& Int32.toUInt32 31)).toInt32) / 10 * 10), .int (nI k), .ref 67] (hp_SH ++ dy, g1, r) [¬ (10 : Int32) = 0] rfl (show ¬ (10 : Int32) = 0 from (by first | exact mm_vi rfl | assumption | decide)) rfl rfl (fun hw => ?_) (fun hw => ?_)
    · refine mm_B ok_Mo_floods 25 7 (5, [some (.ref 52), some (.int s), some (.int w), some (.int (((zz_ s k) * 1103515245) + 12345)), some (.int ((nI k) + 1))], [], (hp_SH ++ dy, mm_up g1 67 ((nI k).toNatClampNeg) (g1 62 ((nI k).toNatClampNeg)), r)) [vp_in (nI k) 12, vp_in (nI k) 6] rfl (show (vp_in (nI k) 12) ∧ (vp_in (nI k) 6) from ⟨(nI_vi (show k < 12 by omega) (by decide)), (nI_vi (show k < 6 by omega) (by decide))⟩) ?_
      rw [nI_clamp (show k < 2 ^ 31 by omega), e9, nI_1]
      exact ih (k + 1) _ (by omega) (hF.up _ rfl) (hs _ (by unfold dr_; exact congrArg pl_c (if_pos hw)))
    · refine mm_B ok_Mo_floods 23 2 (50, [some (.ref 52), some (.int s), some (.int w), some (.int (((zz_ s k) * 1103515245) + 12345)), some (.int (nI k))], [.int (-1), .int (nI k), .ref 67], (hp_SH ++ dy, g1, r)) [] rfl trivial ?_
      refine mm_B ok_Mo_floods 29 3 (5, [some (.ref 52), some (.int s), some (.int w), some (.int (((zz_ s k) * 1103515245) + 12345)), some (.int ((nI k) + 1))], [], (hp_SH ++ dy, mm_up g1 67 ((nI k).toNatClampNeg) (-1), r)) [vp_in (nI k) 6] rfl (show vp_in (nI k) 6 from (nI_vi (show k < 6 by omega) (by decide))) ?_
      rw [nI_clamp (show k < 2 ^ 31 by omega), nI_1]
      exact ih (k + 1) _ (by omega) (hF.up _ rfl) (hs _ (by unfold dr_; exact congrArg pl_c (if_neg hw)))
theorem ct_Mo_floods (dy : List mm_Sh) (g : Nat → Nat → Int32) (r : (Nat → Nat → Int64) × Nat × (Nat → Int32)) {pl : Nat → Option Nat} (hpl : ∀ b, b < 6 → g 62 b = pl_c (pl b)) (s w : Int32) : mm_Ct 1 M_Mo_floods [.ref 52, .int s, .int w] (hp_SH ++ dy, g, r) 0 0 (fun v h' => v = none ∧ ∃ g', h' = (hp_SH ++ dy, g', r) ∧ fr_ mr67 g g' ∧ ∀ b, b < 6 → g' 67 b = pl_c (dr_ pl s w b)) := by
  refine mm_start pl_Mo (Nat.le_of_ble_eq_true rfl) ?_
  refine mm_B ok_Mo_floods 0 4 (5, [some (.ref 52), some (.int s), some (.int w), some (.int s), some (.int 0)], [], (hp_SH ++ dy, g, r)) [] rfl trivial ?_
  exact fl_go dy g r hpl s w 6 0 g rfl fr_.rf (fun j hj => absurd hj (Nat.not_lt_zero j))
theorem cm_drawn (dy : List mm_Sh) (g : Nat → Nat → Int32) (r : (Nat → Nat → Int64) × Nat × (Nat → Int32)) {A : sA} (hI : MI (nr_ g) A) (hSI : SI A) (s w : Int32) : mm_Ct 75 M_Mo_drawn [.ref 52, .int s, .int w] (hp_SH ++ dy, g, r) 0 0 (RM dy g r A (.int (an_drawn A s w))) := by
  have hI' := hI
  obtain ⟨hL, hK, hPl, hX, hB, hS, hIm⟩ := hI'
  have hR := dX_R hX
  have h4 := hL.2.1
  have h6 := hK.2.1
  have e10 : g 52 10 = nI A.1.1 := by rw [← nr_eq g (k := 52) (j := 10) rfl]; exact hL.1
  have e14 : g 52 14 = nI A.2.1.1 := by rw [← nr_eq g (k := 52) (j := 14) rfl]; exact hK.1
  have hpl : ∀ b, b < 6 → g 62 b = pl_c (A.2.2.1.1 b) := fun b hb => by rw [← nr_eq g (k := 62) (j := b) rfl]; exact (hPl b hb).1
  have hot : ∀ b, b < 6 → g 62 (6 + b) = pl_c (A.2.2.1.2 b) := fun b hb => by rw [← nr_eq g (k := 62) (j := 6 + b) rfl]; exact (hPl b hb).2
  have hpo : ∀ b l, b < 6 → A.2.2.1.1 b = some l → l < A.1.1 := fun b l hb h => hSI.1 b l hb (Or.inl h)
  refine mm_start pl_Mo (Nat.le_of_ble_eq_true rfl) ?_
  cases hx1 : ix_ 11 w with
  | none =>
    rw [show an_drawn A s w = (-2) by unfold an_drawn; rw [hx1]]
    refine mm_B ok_Mo_drawn 0 4 (6, [some (.ref 52), some (.int s), some (.int w)], [.long 10, .long 0, .long (w).toInt64], (hp_SH ++ dy, g, r)) [] rfl trivial ?_
    refine mm_cS (as := [.long (w).toInt64, .long 0, .long 10]) (st := []) cw_Mo_in lk_Mo_100 sx_Mo_in (mm_at ok_Mo_drawn (i := 4) rfl).1 (ct_Mo_in (hp_SH ++ dy, g, r) w.toInt64 0 10) (by decide) ⟨by omega, by omega⟩ (Nat.le_of_ble_eq_true rfl) (mm_vs_b (b := 77) rfl (hp_len dy)) (fun v h' hqq => ?_)
    obtain ⟨rfl, hqe⟩ := hqq; rw [hqe]
    rw [in_11 w, hx1]
    refine mm_I ok_Mo_drawn 5 0 9 [some (.ref 52), some (.int s), some (.int w)] [.int (iz_ none)] (hp_SH ++ dy, g, r) [] rfl trivial rfl rfl (fun q => False.elim (q rfl)) (fun _ => ?_)
    refine mm_B ok_Mo_drawn 6 1 (14, [some (.ref 52), some (.int s), some (.int w)], [.int (-2)], (hp_SH ++ dy, g, r)) [] rfl trivial ?_
    exact mm_ri rfl (mm_at ok_Mo_drawn (i := 7) rfl).1 ⟨Nat.le_refl _, Nat.le_refl _⟩ (RM_q rfl hI fr_.rf)
  | some j =>
    obtain ⟨hl1, rfl⟩ := ix_some (by omega) hx1
    rw [show an_drawn A s (nI j) = nI (sp_all A.1 (aC A) A.2.1 (dr_ A.2.2.1.1 s (nI j))) from by unfold an_drawn; rw [hx1]]
    refine mm_B ok_Mo_drawn 0 4 (6, [some (.ref 52), some (.int s), some (.int (nI j))], [.long 10, .long 0, .long ((nI j)).toInt64], (hp_SH ++ dy, g, r)) [] rfl trivial ?_
    refine mm_cS (as := [.long ((nI j)).toInt64, .long 0, .long 10]) (st := []) cw_Mo_in lk_Mo_100 sx_Mo_in (mm_at ok_Mo_drawn (i := 4) rfl).1 (ct_Mo_in (hp_SH ++ dy, g, r) (nI j).toInt64 0 10) (by decide) ⟨by omega, by omega⟩ (Nat.le_of_ble_eq_true rfl) (mm_vs_b (b := 77) rfl (hp_len dy)) (fun v h' hqq => ?_)
    obtain ⟨rfl, hqe⟩ := hqq; rw [hqe]
    rw [in_11 (nI j), ix_at hl1 (by omega)]
    refine mm_I ok_Mo_drawn 5 0 9 [some (.ref 52), some (.int s), some (.int (nI j))] [.int (iz_ (some j))] (hp_SH ++ dy, g, r) [] rfl trivial rfl rfl (fun _ => ?_) (fun q => False.elim (one0 q))
    refine mm_B ok_Mo_drawn 8 1 (16, [some (.ref 52), some (.int s), some (.int (nI j))], [.ref 52], (hp_SH ++ dy, g, r)) [] rfl trivial ?_
    refine mm_cV (as := []) (st := []) (q := 52) cw_Mo_forgets lk_Mo_298 in_Mo_forgets sl_Mo_forgets rfl rfl (mm_at ok_Mo_drawn (i := 9) rfl).1 (ct_Mo_forgets dy g r) (by decide) ⟨by omega, by omega⟩ (Nat.le_of_ble_eq_true rfl) (mm_vs_b (b := 77) rfl (hp_len dy)) (fun v h' hqq => ?_)
    obtain ⟨rfl, g1, hqe, hF1, h63, h64⟩ := hqq; rw [hqe]
    have hnh : nh_ (aC A) A.2.1.2.2.2 g1 := fun i hi => Or.inl (h63 i hi)
    have hnw : nw_ (aC A) A.2.1.2.2.2 g1 := fun i hi => Or.inl (h64 i hi)
    refine mm_B ok_Mo_drawn 10 3 (22, [some (.ref 52), some (.int s), some (.int (nI j))], [.int (nI j), .int s, .ref 52], (hp_SH ++ dy, g1, r)) [] rfl trivial ?_
    refine mm_cV (as := [.int s, .int (nI j)]) (st := []) (q := 52) cw_Mo_floods lk_Mo_336 in_Mo_floods sl_Mo_floods rfl rfl (mm_at ok_Mo_drawn (i := 13) rfl).1 (ct_Mo_floods dy g1 r (pl := A.2.2.1.1) (fun b hb => by rw [hF1 62 b rfl]; exact hpl b hb) s (nI j)) (by decide) ⟨by omega, by omega⟩ (Nat.le_of_ble_eq_true rfl) (mm_vs_b (b := 77) rfl (hp_len dy)) (fun v h' hqq => ?_)
    obtain ⟨rfl, g2, hqe, hF2, h67⟩ := hqq; rw [hqe]
    have hF : fr_ mz_ g g2 := (hF1.mono mz_mu).tr (hF2.mono mz_67)
    refine mm_B ok_Mo_drawn 14 1 (26, [some (.ref 52), some (.int s), some (.int (nI j))], [.ref 52], (hp_SH ++ dy, g2, r)) [] rfl trivial ?_
    refine mm_cV (as := []) (st := []) (q := 52) cw_Mo_allPoints lk_Mo_304 in_Mo_allPoints sl_Mo_allPoints rfl rfl (mm_at ok_Mo_drawn (i := 15) rfl).1 (ct_Mo_allPoints dy g2 (nr_ g) r (hF.nr mz_nr rfl) hR hL hK h67 (fun b l hb h => hpo b l hb (dr_le h)) (nh_fr hnh (fun i => hF2 63 i rfl)) (nw_fr hnw (fun i => hF2 64 i rfl))) (by decide) ⟨by omega, by omega⟩ (Nat.le_of_ble_eq_true rfl) (mm_vs_b (b := 77) rfl (hp_len dy)) (fun v h' hqq => ?_)
    obtain ⟨rfl, g3, r3, hqe, hr3, hF3, hnh3, hnw3⟩ := hqq; rw [hqe]
    exact mm_ri rfl (mm_at ok_Mo_drawn (i := 16) rfl).1 ⟨Nat.le_refl _, Nat.le_refl _⟩ (RM_q hr3 hI ((hF.tr (hF3.mono mz_mp)).mono dz_mz))
theorem cm_points (dy : List mm_Sh) (g : Nat → Nat → Int32) (r : (Nat → Nat → Int64) × Nat × (Nat → Int32)) {A : sA} (hI : MI (nr_ g) A) (hSI : SI A) (c : Int32) : mm_Ct 75 M_Mo_points [.ref 52, .int c] (hp_SH ++ dy, g, r) 0 0 (RM dy g r A (.int (an_points A c))) := by
  have hI' := hI
  obtain ⟨hL, hK, hPl, hX, hB, hS, hIm⟩ := hI'
  have hR := dX_R hX
  have h4 := hL.2.1
  have h6 := hK.2.1
  have e10 : g 52 10 = nI A.1.1 := by rw [← nr_eq g (k := 52) (j := 10) rfl]; exact hL.1
  have e14 : g 52 14 = nI A.2.1.1 := by rw [← nr_eq g (k := 52) (j := 14) rfl]; exact hK.1
  have hpl : ∀ b, b < 6 → g 62 b = pl_c (A.2.2.1.1 b) := fun b hb => by rw [← nr_eq g (k := 62) (j := b) rfl]; exact (hPl b hb).1
  have hot : ∀ b, b < 6 → g 62 (6 + b) = pl_c (A.2.2.1.2 b) := fun b hb => by rw [← nr_eq g (k := 62) (j := 6 + b) rfl]; exact (hPl b hb).2
  have hpo : ∀ b l, b < 6 → A.2.2.1.1 b = some l → l < A.1.1 := fun b l hb h => hSI.1 b l hb (Or.inl h)
  refine mm_start pl_Mo (Nat.le_of_ble_eq_true rfl) ?_
  by_cases h1 : c = -1
  · rw [show an_points A c = nI (sp_all A.1 (aC A) A.2.1 A.2.2.1.1) by unfold an_points; rw [if_pos h1]]
    subst h1
    refine mm_I ok_Mo_points 0 2 2 [some (.ref 52), some (.int (-1))] [.int (-1), .int (-1)] (hp_SH ++ dy, g, r) [] rfl trivial rfl rfl (fun _ => ?_) (fun q => False.elim (q rfl))
    refine mm_B ok_Mo_points 9 1 (17, [some (.ref 52), some (.int (-1))], [.ref 52], (hp_SH ++ dy, g, r)) [] rfl trivial ?_
    refine mm_cV (as := []) (st := []) (q := 52) cw_Mo_forgets lk_Mo_298 in_Mo_forgets sl_Mo_forgets rfl rfl (mm_at ok_Mo_points (i := 10) rfl).1 (ct_Mo_forgets dy g r) (by decide) ⟨by omega, by omega⟩ (Nat.le_of_ble_eq_true rfl) (mm_vs_b (b := 77) rfl (hp_len dy)) (fun v h' hqq => ?_)
    obtain ⟨rfl, g1, hqe, hF1, h63, h64⟩ := hqq; rw [hqe]
    refine mm_B ok_Mo_points 11 1 (21, [some (.ref 52), some (.int (-1))], [.ref 52], (hp_SH ++ dy, g1, r)) [] rfl trivial ?_
    refine mm_cV (as := []) (st := []) (q := 52) cw_Mo_takesPlan lk_Mo_301 in_Mo_takesPlan sl_Mo_takesPlan rfl rfl (mm_at ok_Mo_points (i := 12) rfl).1 (ct_Mo_takesPlan dy g1 r) (by decide) ⟨by omega, by omega⟩ (Nat.le_of_ble_eq_true rfl) (mm_vs_b (b := 77) rfl (hp_len dy)) (fun v h' hqq => ?_)
    obtain ⟨rfl, g2, hqe, hF2, h67⟩ := hqq; rw [hqe]
    obtain ⟨hF, hnh, hnw, h67'⟩ := beg_ok (C := aC A) (ag := A.2.1.2.2.2) hF1 h63 h64 hF2 h67 hpl
    have hP2 := hF.nr mz_nr (rfl : nr_ g = nr_ g)
    refine mm_I ok_Mo_points 13 2 26 [some (.ref 52), some (.int (-1))] [.int (-1), .int (-1)] (hp_SH ++ dy, g2, r) [] rfl trivial rfl rfl (fun q => False.elim (q rfl)) (fun _ => ?_)
    refine mm_B ok_Mo_points 16 1 (30, [some (.ref 52), some (.int (-1))], [.ref 52], (hp_SH ++ dy, g2, r)) [] rfl trivial ?_
    refine mm_cV (as := []) (st := []) (q := 52) cw_Mo_allPoints lk_Mo_304 in_Mo_allPoints sl_Mo_allPoints rfl rfl (mm_at ok_Mo_points (i := 17) rfl).1 (ct_Mo_allPoints dy g2 (nr_ g) r hP2 hR hL hK h67' hpo hnh hnw) (by decide) ⟨by omega, by omega⟩ (Nat.le_of_ble_eq_true rfl) (mm_vs_b (b := 77) rfl (hp_len dy)) (fun v h' hqq => ?_)
    obtain ⟨rfl, g3, r3, hqe, hr3, hF3, hnh3, hnw3⟩ := hqq; rw [hqe]
    refine mm_B ok_Mo_points 18 1 (41, [some (.ref 52), some (.int (-1))], [.int (nI (sp_all A.1 (aC A) A.2.1 A.2.2.1.1))], (hp_SH ++ dy, g3, r3)) [] rfl trivial ?_
    exact mm_ri rfl (mm_at ok_Mo_points (i := 22) rfl).1 ⟨Nat.le_refl _, Nat.le_refl _⟩ (RM_q hr3 hI ((hF.tr (hF3.mono mz_mp)).mono dz_mz))
  · cases hx : ix_ A.2.1.1 c with
    | none =>
      rw [show an_points A c = -2 by unfold an_points; rw [if_neg h1, hx]]
      refine mm_I ok_Mo_points 0 2 2 [some (.ref 52), some (.int c)] [.int (-1), .int c] (hp_SH ++ dy, g, r) [] rfl trivial rfl rfl (fun q => False.elim (h1 q)) (fun _ => ?_)
      refine mm_B ok_Mo_points 3 2 (7, [some (.ref 52), some (.int c)], [.int c, .ref 52], (hp_SH ++ dy, g, r)) [] rfl trivial ?_
      refine mm_cV (as := [.int c]) (st := []) (q := 52) cw_Mo_isChild lk_Mo_121 in_Mo_isChild sl_Mo_isChild rfl rfl (mm_at ok_Mo_points (i := 5) rfl).1 (ct_Mo_isChild dy g r c) (by decide) ⟨by omega, by omega⟩ (Nat.le_of_ble_eq_true rfl) (mm_vs_b (b := 77) rfl (hp_len dy)) (fun v h' hqq => ?_)
      obtain ⟨rfl, hqe⟩ := hqq; rw [hqe]
      rw [mc_x (by omega) e14 c, hx]
      refine mm_I ok_Mo_points 6 0 10 [some (.ref 52), some (.int c)] [.int (iz_ none)] (hp_SH ++ dy, g, r) [] rfl trivial rfl rfl (fun q => False.elim (q rfl)) (fun _ => ?_)
      refine mm_B ok_Mo_points 7 1 (15, [some (.ref 52), some (.int c)], [.int (-2)], (hp_SH ++ dy, g, r)) [] rfl trivial ?_
      exact mm_ri rfl (mm_at ok_Mo_points (i := 8) rfl).1 ⟨Nat.le_refl _, Nat.le_refl _⟩ (RM_q rfl hI fr_.rf)
    | some i =>
      rw [show an_points A c = nI (sp_pts A.1 (aC A) A.2.1 A.2.2.1.1 i) by unfold an_points; rw [if_neg h1, hx]]
      obtain ⟨hl, rfl⟩ := ix_some (by omega) hx
      refine mm_I ok_Mo_points 0 2 2 [some (.ref 52), some (.int (nI i))] [.int (-1), .int (nI i)] (hp_SH ++ dy, g, r) [] rfl trivial rfl rfl (fun q => False.elim (h1 q)) (fun _ => ?_)
      refine mm_B ok_Mo_points 3 2 (7, [some (.ref 52), some (.int (nI i))], [.int (nI i), .ref 52], (hp_SH ++ dy, g, r)) [] rfl trivial ?_
      refine mm_cV (as := [.int (nI i)]) (st := []) (q := 52) cw_Mo_isChild lk_Mo_121 in_Mo_isChild sl_Mo_isChild rfl rfl (mm_at ok_Mo_points (i := 5) rfl).1 (ct_Mo_isChild dy g r (nI i)) (by decide) ⟨by omega, by omega⟩ (Nat.le_of_ble_eq_true rfl) (mm_vs_b (b := 77) rfl (hp_len dy)) (fun v h' hqq => ?_)
      obtain ⟨rfl, hqe⟩ := hqq; rw [hqe]
      rw [mc_x (by omega) e14 (nI i), hx]
      refine mm_I ok_Mo_points 6 0 10 [some (.ref 52), some (.int (nI i))] [.int (iz_ (some i))] (hp_SH ++ dy, g, r) [] rfl trivial rfl rfl (fun _ => ?_) (fun q => False.elim (one0 q))
      refine mm_B ok_Mo_points 9 1 (17, [some (.ref 52), some (.int (nI i))], [.ref 52], (hp_SH ++ dy, g, r)) [] rfl trivial ?_
      refine mm_cV (as := []) (st := []) (q := 52) cw_Mo_forgets lk_Mo_298 in_Mo_forgets sl_Mo_forgets rfl rfl (mm_at ok_Mo_points (i := 10) rfl).1 (ct_Mo_forgets dy g r) (by decide) ⟨by omega, by omega⟩ (Nat.le_of_ble_eq_true rfl) (mm_vs_b (b := 77) rfl (hp_len dy)) (fun v h' hqq => ?_)
      obtain ⟨rfl, g1, hqe, hF1, h63, h64⟩ := hqq; rw [hqe]
      refine mm_B ok_Mo_points 11 1 (21, [some (.ref 52), some (.int (nI i))], [.ref 52], (hp_SH ++ dy, g1, r)) [] rfl trivial ?_
      refine mm_cV (as := []) (st := []) (q := 52) cw_Mo_takesPlan lk_Mo_301 in_Mo_takesPlan sl_Mo_takesPlan rfl rfl (mm_at ok_Mo_points (i := 12) rfl).1 (ct_Mo_takesPlan dy g1 r) (by decide) ⟨by omega, by omega⟩ (Nat.le_of_ble_eq_true rfl) (mm_vs_b (b := 77) rfl (hp_len dy)) (fun v h' hqq => ?_)
      obtain ⟨rfl, g2, hqe, hF2, h67⟩ := hqq; rw [hqe]
      obtain ⟨hF, hnh, hnw, h67'⟩ := beg_ok (C := aC A) (ag := A.2.1.2.2.2) hF1 h63 h64 hF2 h67 hpl
      have hP2 := hF.nr mz_nr (rfl : nr_ g = nr_ g)
      refine mm_I ok_Mo_points 13 2 26 [some (.ref 52), some (.int (nI i))] [.int (-1), .int (nI i)] (hp_SH ++ dy, g2, r) [] rfl trivial rfl rfl (fun _ => ?_) (fun q => False.elim (h1 q))
      refine mm_B ok_Mo_points 19 2 (38, [some (.ref 52), some (.int (nI i))], [.int (nI i), .ref 52], (hp_SH ++ dy, g2, r)) [] rfl trivial ?_
      refine mm_cV (as := [.int (nI i)]) (st := []) (q := 52) cw_Mo_pointsBy lk_Mo_295 in_Mo_pointsBy sl_Mo_pointsBy rfl rfl (mm_at ok_Mo_points (i := 21) rfl).1 (ct_Mo_pointsBy dy g2 (nr_ g) r hP2 hR hL hK hl h67' hpo hnh hnw) (by decide) ⟨by omega, by omega⟩ (Nat.le_of_ble_eq_true rfl) (mm_vs_b (b := 77) rfl (hp_len dy)) (fun v h' hqq => ?_)
      obtain ⟨rfl, g3, r3, hqe, hr3, hF3, hnh3, hnw3⟩ := hqq; rw [hqe]
      exact mm_ri rfl (mm_at ok_Mo_points (i := 22) rfl).1 ⟨Nat.le_refl _, Nat.le_refl _⟩ (RM_q hr3 hI ((hF.tr (hF3.mono mz_mp)).mono dz_mz))

