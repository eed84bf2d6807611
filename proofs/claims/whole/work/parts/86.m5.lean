/-! ===== the model's calls: exam, aboard, run ===== -/
theorem ct_Mo_examBad (dy : List mm_Sh) (g : Nat → Nat → Int32) (r : (Nat → Nat → Int64) × Nat × (Nat → Int32)) {A : sA} (hI : MI (nr_ g) A) (c s : Int32) : mm_Ct 5 M_Mo_examBad [.ref 52, .int c, .int s] (hp_SH ++ dy, g, r) 0 0 (fun v h' => v = some (.int (an_rf A c s)) ∧ h' = (hp_SH ++ dy, g, r)) := by
  obtain ⟨hL, hK, hPl, hX, hB, hS, hIm⟩ := hI
  have h6 := hK.2.1
  have e14 : g 52 14 = nI A.2.1.1 := by rw [← nr_eq g (k := 52) (j := 14) rfl]; exact hK.1
  refine mm_start pl_Mo (Nat.le_of_ble_eq_true rfl) ?_
  cases hx1 : ix_ A.2.1.1 c with
  | none =>
    rw [show an_rf A c s = -2 by unfold an_rf; rw [hx1]]
    refine mm_B ok_Mo_examBad 0 2 (2, [some (.ref 52), some (.int c), some (.int s)], [.int c, .ref 52], (hp_SH ++ dy, g, r)) [] rfl trivial ?_
    refine mm_cV (as := [.int c]) (st := []) (q := 52) cw_Mo_isChild lk_Mo_121 in_Mo_isChild sl_Mo_isChild rfl rfl (mm_at ok_Mo_examBad (i := 2) rfl).1 (ct_Mo_isChild dy g r c) (by decide) ⟨by omega, by omega⟩ (Nat.le_of_ble_eq_true rfl) (mm_vs_b (b := 77) rfl (hp_len dy)) (fun v h' hqq => ?_)
    obtain ⟨rfl, hqe⟩ := hqq; rw [hqe]
    rw [mc_x (by omega) e14 c, hx1]
    refine mm_I ok_Mo_examBad 3 0 5 [some (.ref 52), some (.int c), some (.int s)] [.int (iz_ none)] (hp_SH ++ dy, g, r) [] rfl trivial rfl rfl (fun _ => ?_) (fun q => False.elim (q rfl))
    refine mm_B ok_Mo_examBad 7 1 (17, [some (.ref 52), some (.int c), some (.int s)], [.int (-2)], (hp_SH ++ dy, g, r)) [] rfl trivial ?_
    exact mm_ri rfl (mm_at ok_Mo_examBad (i := 8) rfl).1 ⟨Nat.le_refl _, Nat.le_refl _⟩ (⟨rfl, rfl⟩)
  | some i =>
    cases hx2 : ix_ 4 s with
    | none =>
      rw [show an_rf A c s = -2 by unfold an_rf; rw [hx1, hx2]]
      refine mm_B ok_Mo_examBad 0 2 (2, [some (.ref 52), some (.int c), some (.int s)], [.int c, .ref 52], (hp_SH ++ dy, g, r)) [] rfl trivial ?_
      refine mm_cV (as := [.int c]) (st := []) (q := 52) cw_Mo_isChild lk_Mo_121 in_Mo_isChild sl_Mo_isChild rfl rfl (mm_at ok_Mo_examBad (i := 2) rfl).1 (ct_Mo_isChild dy g r c) (by decide) ⟨by omega, by omega⟩ (Nat.le_of_ble_eq_true rfl) (mm_vs_b (b := 77) rfl (hp_len dy)) (fun v h' hqq => ?_)
      obtain ⟨rfl, hqe⟩ := hqq; rw [hqe]
      rw [mc_x (by omega) e14 c, hx1]
      refine mm_I ok_Mo_examBad 3 0 5 [some (.ref 52), some (.int c), some (.int s)] [.int (iz_ (some i))] (hp_SH ++ dy, g, r) [] rfl trivial rfl rfl (fun q => False.elim (one0 q)) (fun _ => ?_)
      refine mm_B ok_Mo_examBad 4 1 (9, [some (.ref 52), some (.int c), some (.int s)], [.int s], (hp_SH ++ dy, g, r)) [] rfl trivial ?_
      refine mm_cS (as := [.int s]) (st := []) cw_Mo_isSheet lk_Mo_323 sx_Mo_isSheet (mm_at ok_Mo_examBad (i := 5) rfl).1 (ct_Mo_isSheet (hp_SH ++ dy, g, r) s) (by decide) ⟨by omega, by omega⟩ (Nat.le_of_ble_eq_true rfl) (mm_vs_b (b := 77) rfl (hp_len dy)) (fun v h' hqq => ?_)
      obtain ⟨rfl, hqe⟩ := hqq; rw [hqe]
      rw [ms_x s, hx2]
      refine mm_I ok_Mo_examBad 6 0 12 [some (.ref 52), some (.int c), some (.int s)] [.int (iz_ none)] (hp_SH ++ dy, g, r) [] rfl trivial rfl rfl (fun q => False.elim (q rfl)) (fun _ => ?_)
      refine mm_B ok_Mo_examBad 7 1 (17, [some (.ref 52), some (.int c), some (.int s)], [.int (-2)], (hp_SH ++ dy, g, r)) [] rfl trivial ?_
      exact mm_ri rfl (mm_at ok_Mo_examBad (i := 8) rfl).1 ⟨Nat.le_refl _, Nat.le_refl _⟩ (⟨rfl, rfl⟩)
    | some k =>
      obtain ⟨hk, rfl⟩ := ix_some (by decide) hx2
      have h51 := hS k hk
      refine mm_B ok_Mo_examBad 0 2 (2, [some (.ref 52), some (.int c), some (.int (nI k))], [.int c, .ref 52], (hp_SH ++ dy, g, r)) [] rfl trivial ?_
      refine mm_cV (as := [.int c]) (st := []) (q := 52) cw_Mo_isChild lk_Mo_121 in_Mo_isChild sl_Mo_isChild rfl rfl (mm_at ok_Mo_examBad (i := 2) rfl).1 (ct_Mo_isChild dy g r c) (by decide) ⟨by omega, by omega⟩ (Nat.le_of_ble_eq_true rfl) (mm_vs_b (b := 77) rfl (hp_len dy)) (fun v h' hqq => ?_)
      obtain ⟨rfl, hqe⟩ := hqq; rw [hqe]
      rw [mc_x (by omega) e14 c, hx1]
      refine mm_I ok_Mo_examBad 3 0 5 [some (.ref 52), some (.int c), some (.int (nI k))] [.int (iz_ (some i))] (hp_SH ++ dy, g, r) [] rfl trivial rfl rfl (fun q => False.elim (one0 q)) (fun _ => ?_)
      refine mm_B ok_Mo_examBad 4 1 (9, [some (.ref 52), some (.int c), some (.int (nI k))], [.int (nI k)], (hp_SH ++ dy, g, r)) [] rfl trivial ?_
      refine mm_cS (as := [.int (nI k)]) (st := []) cw_Mo_isSheet lk_Mo_323 sx_Mo_isSheet (mm_at ok_Mo_examBad (i := 5) rfl).1 (ct_Mo_isSheet (hp_SH ++ dy, g, r) (nI k)) (by decide) ⟨by omega, by omega⟩ (Nat.le_of_ble_eq_true rfl) (mm_vs_b (b := 77) rfl (hp_len dy)) (fun v h' hqq => ?_)
      obtain ⟨rfl, hqe⟩ := hqq; rw [hqe]
      rw [ms_x (nI k), hx2]
      refine mm_I ok_Mo_examBad 6 0 12 [some (.ref 52), some (.int c), some (.int (nI k))] [.int (iz_ (some k))] (hp_SH ++ dy, g, r) [] rfl trivial rfl rfl (fun _ => ?_) (fun q => False.elim (one0 q))
      refine mm_B ok_Mo_examBad 9 4 (24, [some (.ref 52), some (.int c), some (.int (nI k))], [.int (g 73 ((nI k).toNatClampNeg))], (hp_SH ++ dy, g, r)) [vp_in (nI k) 4] rfl (show vp_in (nI k) 4 from (nI_vi hk (by decide))) ?_
      cases hs : A.2.2.2.2.2.1 k with
      | none =>
        rw [hs] at h51
        have e51 : g 73 (nI k).toNatClampNeg = 0 := by rw [nI_clamp (by omega), ← nr_eq g (k := 73) (j := k) rfl]; exact h51
        rw [show an_rf A c (nI k) = -11 by unfold an_rf; rw [hx1, hx2]; show (match A.2.2.2.2.2.1 k with | none => _ | some q => _) = _; rw [hs], e51]
        refine mm_I ok_Mo_examBad 13 0 24 [some (.ref 52), some (.int c), some (.int (nI k))] [.int 0] (hp_SH ++ dy, g, r) [] rfl trivial rfl rfl (fun q => False.elim (q rfl)) (fun _ => ?_)
        refine mm_B ok_Mo_examBad 14 1 (29, [some (.ref 52), some (.int c), some (.int (nI k))], [.int (-11)], (hp_SH ++ dy, g, r)) [] rfl trivial ?_
        exact mm_ri rfl (mm_at ok_Mo_examBad (i := 15) rfl).1 ⟨Nat.le_refl _, Nat.le_refl _⟩ (⟨rfl, rfl⟩)
      | some p =>
        rw [hs] at h51
        obtain ⟨a0, a1, a2, a3, a4, a5⟩ := h51
        have e51 : g 73 (nI k).toNatClampNeg = 1 := by rw [nI_clamp (by omega), ← nr_eq g (k := 73) (j := k) rfl]; exact a0
        have e50 : g 75 (nI k).toNatClampNeg = nI p.2.1 := by rw [nI_clamp (by omega), ← nr_eq g (k := 75) (j := k) rfl]; exact a3
        have ea : an_rf A c (nI k) = if p.2.1 = 6 then 0 else -2 := by unfold an_rf; rw [hx1, hx2]; show (match A.2.2.2.2.2.1 k with | none => _ | some q => _) = _; rw [hs]
        rw [e51]
        refine mm_I ok_Mo_examBad 13 0 24 [some (.ref 52), some (.int c), some (.int (nI k))] [.int 1] (hp_SH ++ dy, g, r) [] rfl trivial rfl rfl (fun _ => ?_) (fun q => False.elim (absurd q (by decide)))
        refine mm_B ok_Mo_examBad 16 5 (38, [some (.ref 52), some (.int c), some (.int (nI k))], [.int 6, .int (g 75 ((nI k).toNatClampNeg))], (hp_SH ++ dy, g, r)) [vp_in (nI k) 4] rfl (show vp_in (nI k) 4 from (nI_vi hk (by decide))) ?_
        rw [e50]
        refine mm_I ok_Mo_examBad 21 0 38 [some (.ref 52), some (.int c), some (.int (nI k))] [.int 6, .int (nI p.2.1)] (hp_SH ++ dy, g, r) [] rfl trivial rfl rfl (fun h6' => ?_) (fun h6' => ?_)
        · rw [ea, if_neg (fun e => h6' (by rw [e]; rfl))]
          refine mm_B ok_Mo_examBad 24 1 (47, [some (.ref 52), some (.int c), some (.int (nI k))], [.int (-2)], (hp_SH ++ dy, g, r)) [] rfl trivial ?_
          exact mm_ri rfl (mm_at ok_Mo_examBad (i := 25) rfl).1 ⟨Nat.le_refl _, Nat.le_refl _⟩ (⟨rfl, rfl⟩)
        · rw [ea, if_pos ((nI_eq (b := 6) (by omega) (by decide)).mp h6')]
          refine mm_B ok_Mo_examBad 22 2 (47, [some (.ref 52), some (.int c), some (.int (nI k))], [.int 0], (hp_SH ++ dy, g, r)) [] rfl trivial ?_
          exact mm_ri rfl (mm_at ok_Mo_examBad (i := 25) rfl).1 ⟨Nat.le_refl _, Nat.le_refl _⟩ (⟨rfl, rfl⟩)
theorem ex_eq {A : sA} {c on off k : Nat} {v : Nat → Int32} {g : Nat → Nat → Int32} (h68 : ∀ j, j < 6 → g 68 j = nI (sp_has A.1 (sp_run A.1 (sp_H (aC A) A.2.1.2.2.2 c) A.2.2.1.1 on off (j + 1)).2 j)) (h76 : ∀ b, b < 6 → g 76 (40 * k + b) = v b) : fu_ (fun b => decide (¬ g 68 b = g 76 (40 * k + b))) 6 0 = ex_u A c on off v := by
  unfold ex_u
  exact fu_cong 6 0 (fun j _ hj => by unfold ex_p; rw [h68 j (by omega), h76 j (by omega)])
theorem cm_exam (dy : List mm_Sh) (g : Nat → Nat → Int32) (r : (Nat → Nat → Int64) × Nat × (Nat → Int32)) {A : sA} (hI : MI (nr_ g) A) (hSI : SI A) (c s : Int32) : mm_Ct 75 M_Mo_exam [.ref 52, .int c, .int s] (hp_SH ++ dy, g, r) 0 0 (RM dy g r A (.int (an_exam A c s))) := by
  have hI' := hI
  obtain ⟨hL, hK, hPl, hX, hB, hS, hIm⟩ := hI'
  have hR := dX_R hX
  have h4 := hL.2.1
  have h6 := hK.2.1
  have e10 : g 52 10 = nI A.1.1 := by rw [← nr_eq g (k := 52) (j := 10) rfl]; exact hL.1
  have e14 : g 52 14 = nI A.2.1.1 := by rw [← nr_eq g (k := 52) (j := 14) rfl]; exact hK.1
  have hpl : ∀ b, b < 6 → g 62 b = pl_c (A.2.2.1.1 b) := fun b hb => by rw [← nr_eq g (k := 62) (j := b) rfl]; exact (hPl b hb).1
  have hot : ∀ b, b < 6 → g 62 (6 + b) = pl_c (A.2.2.1.2 b) := fun b hb => by rw [← nr_eq g (k := 62) (j := 6 + b) rfl]; exact (hPl b hb).2
  have hpo : ∀ b l, b < 6 → A.2.2.1.1 b = some l → l < A.1.1 := fun b l hb h => hSI.1 b l hb (Or.inl h)
  refine mm_start pl_Mo (Nat.le_of_ble_eq_true rfl) ?_
  by_cases h0 : an_rf A c s = 0
  · obtain ⟨i, k, p, hi, hk, rfl, rfl, hp, hp6, he, -⟩ := rf_0 h0
    rw [he]
    have h51 := hS k hk
    rw [hp] at h51
    obtain ⟨a0, a1, a2, a3, a4, a5⟩ := h51
    have hl1 := hi
    obtain ⟨k1, k2, k3, k4, k5⟩ := hK.2.2 i hl1
    have e59 : g 59 (nI i).toNatClampNeg = nI (A.2.1.2.1 i) := by rw [nI_clamp (by omega), ← nr_eq g (k := 59) (j := i) rfl]; exact k1
    have e60 : g 60 (nI i).toNatClampNeg = nI (A.2.1.2.2.1 i) := by rw [nI_clamp (by omega), ← nr_eq g (k := 60) (j := i) rfl]; exact k2
    refine mm_B ok_Mo_exam 0 3 (3, [some (.ref 52), some (.int (nI i)), some (.int (nI k)), none], [.int (nI k), .int (nI i), .ref 52], (hp_SH ++ dy, g, r)) [] rfl trivial ?_
    refine mm_cV (as := [.int (nI i), .int (nI k)]) (st := []) (q := 52) cw_Mo_examBad lk_Mo_326 in_Mo_examBad sl_Mo_examBad rfl rfl (mm_at ok_Mo_exam (i := 3) rfl).1 (ct_Mo_examBad dy g r hI (nI i) (nI k)) (by decide) ⟨by omega, by omega⟩ (Nat.le_of_ble_eq_true rfl) (mm_vs_b (b := 77) rfl (hp_len dy)) (fun v h' hqq => ?_)
    obtain ⟨rfl, hqe⟩ := hqq; rw [hqe, h0]
    refine mm_I ok_Mo_exam 4 2 8 [some (.ref 52), some (.int (nI i)), some (.int (nI k)), some (.int 0)] [.int 0] (hp_SH ++ dy, g, r) [] rfl trivial rfl rfl (fun _ => ?_) (fun q => False.elim (q rfl))
    refine mm_B ok_Mo_exam 9 1 (14, [some (.ref 52), some (.int (nI i)), some (.int (nI k)), some (.int 0)], [.ref 52], (hp_SH ++ dy, g, r)) [] rfl trivial ?_
    refine mm_cV (as := []) (st := []) (q := 52) cw_Mo_forgets lk_Mo_298 in_Mo_forgets sl_Mo_forgets rfl rfl (mm_at ok_Mo_exam (i := 10) rfl).1 (ct_Mo_forgets dy g r) (by decide) ⟨by omega, by omega⟩ (Nat.le_of_ble_eq_true rfl) (mm_vs_b (b := 77) rfl (hp_len dy)) (fun v h' hqq => ?_)
    obtain ⟨rfl, g1, hqe, hF1, h63, h64⟩ := hqq; rw [hqe]
    refine mm_B ok_Mo_exam 11 1 (18, [some (.ref 52), some (.int (nI i)), some (.int (nI k)), some (.int 0)], [.ref 52], (hp_SH ++ dy, g1, r)) [] rfl trivial ?_
    refine mm_cV (as := []) (st := []) (q := 52) cw_Mo_takesPlan lk_Mo_301 in_Mo_takesPlan sl_Mo_takesPlan rfl rfl (mm_at ok_Mo_exam (i := 12) rfl).1 (ct_Mo_takesPlan dy g1 r) (by decide) ⟨by omega, by omega⟩ (Nat.le_of_ble_eq_true rfl) (mm_vs_b (b := 77) rfl (hp_len dy)) (fun v h' hqq => ?_)
    obtain ⟨rfl, g2, hqe, hF2, h67⟩ := hqq; rw [hqe]
    obtain ⟨hF, hnh, hnw, h67'⟩ := beg_ok (C := aC A) (ag := A.2.1.2.2.2) hF1 h63 h64 hF2 h67 hpl
    have hP2 := hF.nr mz_nr (rfl : nr_ g = nr_ g)
    refine mm_B ok_Mo_exam 13 10 (35, [some (.ref 52), some (.int (nI i)), some (.int (nI k)), some (.int 0)], [.int (g2 60 ((nI i).toNatClampNeg)), .int (g2 59 ((nI i).toNatClampNeg)), .int (nI i), .ref 52], (hp_SH ++ dy, g2, r)) [vp_in (nI i) 6, vp_in (nI i) 6] rfl (show (vp_in (nI i) 6) ∧ (vp_in (nI i) 6) from ⟨(nI_vi (by omega) (by decide)), (nI_vi (by omega) (by decide))⟩) ?_
    rw [show g2 59 (nI i).toNatClampNeg = nI (A.2.1.2.1 i) by rw [hF 59 _ rfl]; exact e59, show g2 60 (nI i).toNatClampNeg = nI (A.2.1.2.2.1 i) by rw [hF 60 _ rfl]; exact e60]
    refine mm_cV (as := [.int (nI i), .int (nI (A.2.1.2.1 i)), .int (nI (A.2.1.2.2.1 i))]) (st := []) (q := 52) cw_Mo_spring lk_Mo_288 in_Mo_spring sl_Mo_spring rfl rfl (mm_at ok_Mo_exam (i := 23) rfl).1 (ct_Mo_spring dy g2 (nr_ g) r hP2 hR hL (ag := A.2.1.2.2.2) (c := i) (on := A.2.1.2.1 i) (off := A.2.1.2.2.1 i) (by omega) (by omega) (by omega) h67' hpo k5 hnh) (by decide) ⟨by omega, by omega⟩ (Nat.le_of_ble_eq_true rfl) (mm_vs_b (b := 77) rfl (hp_len dy)) (fun v h' hqq => ?_)
    obtain ⟨rfl, g3, r3, hqe, hr3, hF3, h364, hnh3, hrw, h68⟩ := hqq; rw [hqe]
    have hF4 := hF.tr (hF3.mono mz_mp)
    refine mm_B ok_Mo_exam 24 2 (40, [some (.ref 52), some (.int (nI i)), some (.int (nI k)), some (.int 0)], [.int (nI k), .ref 52], (hp_SH ++ dy, g3, r3)) [] rfl trivial ?_
    refine mm_cV (as := [.int (nI k)]) (st := []) (q := 52) cw_Mo_unlike lk_Mo_329 in_Mo_unlike sl_Mo_unlike rfl rfl (mm_at ok_Mo_exam (i := 26) rfl).1 (ct_Mo_unlike dy g3 r3 hk) (by decide) ⟨by omega, by omega⟩ (Nat.le_of_ble_eq_true rfl) (mm_vs_b (b := 77) rfl (hp_len dy)) (fun v h' hqq => ?_)
    obtain ⟨rfl, hqe⟩ := hqq; rw [hqe, ex_eq h68 (v := p.2.2) (fun b hb => by rw [nr_at (hF4.nr mz_nr (rfl : nr_ g = nr_ g)) 76 _ rfl]; exact a5 b (by omega))]
    exact mm_ri rfl (mm_at ok_Mo_exam (i := 27) rfl).1 ⟨Nat.le_refl _, Nat.le_refl _⟩ (RM_q hr3 hI (hF4.mono dz_mz))
  · rw [(rf_c h0).1]
    refine mm_B ok_Mo_exam 0 3 (3, [some (.ref 52), some (.int c), some (.int s), none], [.int s, .int c, .ref 52], (hp_SH ++ dy, g, r)) [] rfl trivial ?_
    refine mm_cV (as := [.int c, .int s]) (st := []) (q := 52) cw_Mo_examBad lk_Mo_326 in_Mo_examBad sl_Mo_examBad rfl rfl (mm_at ok_Mo_exam (i := 3) rfl).1 (ct_Mo_examBad dy g r hI c s) (by decide) ⟨by omega, by omega⟩ (Nat.le_of_ble_eq_true rfl) (mm_vs_b (b := 77) rfl (hp_len dy)) (fun v h' hqq => ?_)
    obtain ⟨rfl, hqe⟩ := hqq; rw [hqe]
    refine mm_I ok_Mo_exam 4 2 8 [some (.ref 52), some (.int c), some (.int s), some (.int (an_rf A c s))] [.int (an_rf A c s)] (hp_SH ++ dy, g, r) [] rfl trivial rfl rfl (fun q => False.elim (h0 q)) (fun _ => ?_)
    refine mm_B ok_Mo_exam 7 1 (12, [some (.ref 52), some (.int c), some (.int s), some (.int (an_rf A c s))], [.int (an_rf A c s)], (hp_SH ++ dy, g, r)) [] rfl trivial ?_
    exact mm_ri rfl (mm_at ok_Mo_exam (i := 8) rfl).1 ⟨Nat.le_refl _, Nat.le_refl _⟩ (RM_q rfl hI fr_.rf)
theorem mab_in (dy : List mm_Sh) (g : Nat → Nat → Int32) (r : (Nat → Nat → Int64) × Nat × (Nat → Int32)) {A : sA} (hI : MI (nr_ g) A) (hSI : SI A) {i k w on : Nat} {p : Nat × Nat × (Nat → Int32)} (hi : i < A.2.1.1) (hk : k < 4) (hp : A.2.2.2.2.2.1 k = some p) (hp6 : p.2.1 = 6) (hw : w < 2) (hon : on < 6) {Q : Option Value → mm_Hp → Prop} {st0 : Nat × Nat} (h100 : st0.2 < 100) (hnx : ∀ g2 r2, r2.2 = r.2 → fr_ mz_ g g2 → nh_ (aC A) A.2.1.2.2.2 g2 → (∀ b, b < 6 → g2 67 b = pl_c (A.2.2.1.1 b)) → mm_W 75 M_Mo_aboard 0 0 Q 0 0 (112, [some (.ref 52), some (.int (nI i)), some (.int (nI k)), some (.int (nI w)), some (.int 0), some (.int (nI (bd_ (ab_i A i p.2.2 on) (6 - on) st0).1)), some (.int (nI (bd_ (ab_i A i p.2.2 on) (6 - on) st0).2 - 1)), some (.int (nI on)), some (.int (nI 6))], [], (hp_SH ++ dy, g2, r2))) : ∀ (m d : Nat) (g1 : Nat → Nat → Int32) (r1 : (Nat → Nat → Int64) × Nat × (Nat → Int32)), on + d + m = 6 → r1.2 = r.2 → fr_ mz_ g g1 → nh_ (aC A) A.2.1.2.2.2 g1 → (∀ b, b < 6 → g1 67 b = pl_c (A.2.2.1.1 b)) → mm_W 75 M_Mo_aboard 0 0 Q 0 0 (57, [some (.ref 52), some (.int (nI i)), some (.int (nI k)), some (.int (nI w)), some (.int 0), some (.int (nI (bd_ (ab_i A i p.2.2 on) d st0).1)), some (.int (nI (bd_ (ab_i A i p.2.2 on) d st0).2 - 1)), some (.int (nI on)), some (.int (nI (on + d)))], [], (hp_SH ++ dy, g1, r1)) := by
  have hI' := hI
  obtain ⟨hL, hK, hPl, hX, hB, hS, hIm⟩ := hI'
  have hR := dX_R hX
  have h4 := hL.2.1
  have h6 := hK.2.1
  have e10 : g 52 10 = nI A.1.1 := by rw [← nr_eq g (k := 52) (j := 10) rfl]; exact hL.1
  have e14 : g 52 14 = nI A.2.1.1 := by rw [← nr_eq g (k := 52) (j := 14) rfl]; exact hK.1
  have hpl : ∀ b, b < 6 → g 62 b = pl_c (A.2.2.1.1 b) := fun b hb => by rw [← nr_eq g (k := 62) (j := b) rfl]; exact (hPl b hb).1
  have hot : ∀ b, b < 6 → g 62 (6 + b) = pl_c (A.2.2.1.2 b) := fun b hb => by rw [← nr_eq g (k := 62) (j := 6 + b) rfl]; exact (hPl b hb).2
  have hpo : ∀ b l, b < 6 → A.2.2.1.1 b = some l → l < A.1.1 := fun b l hb h => hSI.1 b l hb (Or.inl h)
  have h51 := hS k hk
  rw [hp] at h51
  obtain ⟨a0, a1, a2, a3, a4, a5⟩ := h51
  obtain ⟨k1, k2, k3, k4, k5⟩ := hK.2.2 i hi
  intro m
  induction m with
  | zero =>
    intro d g1 r1 hd hr hF hnh h67
    rw [show d = 6 - on by omega, show on + (6 - on) = 6 by omega]
    generalize hst : bd_ (ab_i A i p.2.2 on) (6 - on) st0 = st at hnx ⊢
    refine mm_I ok_Mo_aboard 32 2 61 [some (.ref 52), some (.int (nI i)), some (.int (nI k)), some (.int (nI w)), some (.int 0), some (.int (nI st.1)), some (.int (nI st.2 - 1)), some (.int (nI on)), some (.int (nI 6))] [.int 6, .int (nI 6)] (hp_SH ++ dy, g1, r1) [] rfl trivial rfl rfl (fun _ => ?_) (fun q => False.elim (q (by decide)))
    exact hnx g1 r1 hr hF hnh h67
  | succ m ih =>
    intro d g1 r1 hd hr hF hnh h67
    have ih' := ih (d + 1)
    have hs100 := ab_i_le (A := A) (c := i) (v := p.2.2) (on := on) hon h100 d (by omega)
    rw [show bd_ (ab_i A i p.2.2 on) (d + 1) st0 = ab_i A i p.2.2 on d (bd_ (ab_i A i p.2.2 on) d st0) from rfl] at ih'
    generalize hst : bd_ (ab_i A i p.2.2 on) d st0 = st at ih' hs100 ⊢
    unfold ab_i at ih'
    have hP1 := hF.nr mz_nr (rfl : nr_ g = nr_ g)
    refine mm_I ok_Mo_aboard 32 2 61 [some (.ref 52), some (.int (nI i)), some (.int (nI k)), some (.int (nI w)), some (.int 0), some (.int (nI st.1)), some (.int (nI st.2 - 1)), some (.int (nI on)), some (.int (nI (on + d)))] [.int 6, .int (nI (on + d))] (hp_SH ++ dy, g1, r1) [] rfl trivial rfl rfl (fun q => False.elim (nI_ge (b := 6) (show on + d < 6 by omega) (by decide) q)) (fun _ => ?_)
    refine mm_B ok_Mo_aboard 35 4 (70, [some (.ref 52), some (.int (nI i)), some (.int (nI k)), some (.int (nI w)), some (.int 0), some (.int (nI st.1)), some (.int (nI st.2 - 1)), some (.int (nI on)), some (.int (nI (on + d)))], [.int (nI (on + d)), .int (nI on), .int (nI i), .ref 52], (hp_SH ++ dy, g1, r1)) [] rfl trivial ?_
    refine mm_cV (as := [.int (nI i), .int (nI on), .int (nI (on + d))]) (st := []) (q := 52) cw_Mo_spring lk_Mo_288 in_Mo_spring sl_Mo_spring rfl rfl (mm_at ok_Mo_aboard (i := 39) rfl).1 (ct_Mo_spring dy g1 (nr_ g) r1 hP1 hR hL (ag := A.2.1.2.2.2) (c := i) (on := on) (off := on + d) (by omega) (by omega) (by omega) h67 hpo k5 hnh) (by decide) ⟨by omega, by omega⟩ (Nat.le_of_ble_eq_true rfl) (mm_vs_b (b := 77) rfl (hp_len dy)) (fun v h' hqq => ?_)
    obtain ⟨rfl, g3, r3, hqe, hr3, hF3, h364, hnh3, hrw, h68⟩ := hqq; rw [hqe]
    have hF4 := hF.tr (hF3.mono mz_mp)
    have h673 : ∀ b, b < 6 → g3 67 b = pl_c (A.2.2.1.1 b) := fun b hb => (hF3 67 b rfl).trans (h67 b hb)
    refine mm_B ok_Mo_aboard 40 2 (75, [some (.ref 52), some (.int (nI i)), some (.int (nI k)), some (.int (nI w)), some (.int 0), some (.int (nI st.1)), some (.int (nI st.2 - 1)), some (.int (nI on)), some (.int (nI (on + d)))], [.int (nI k), .ref 52], (hp_SH ++ dy, g3, r3)) [] rfl trivial ?_
    refine mm_cV (as := [.int (nI k)]) (st := []) (q := 52) cw_Mo_unlike lk_Mo_329 in_Mo_unlike sl_Mo_unlike rfl rfl (mm_at ok_Mo_aboard (i := 42) rfl).1 (ct_Mo_unlike dy g3 r3 hk) (by decide) ⟨by omega, by omega⟩ (Nat.le_of_ble_eq_true rfl) (mm_vs_b (b := 77) rfl (hp_len dy)) (fun v h' hqq => ?_)
    obtain ⟨rfl, hqe⟩ := hqq; rw [hqe, ex_eq h68 (v := p.2.2) (fun b hb => by rw [nr_at (hF4.nr mz_nr (rfl : nr_ g = nr_ g)) 76 _ rfl]; exact a5 b (by omega))]
    refine mm_I ok_Mo_aboard 43 1 79 [some (.ref 52), some (.int (nI i)), some (.int (nI k)), some (.int (nI w)), some (.int 0), some (.int (nI st.1)), some (.int (nI st.2 - 1)), some (.int (nI on)), some (.int (nI (on + d)))] [.int (-1), .int (ex_u A i on (on + d) p.2.2)] (hp_SH ++ dy, g3, r3) [] rfl trivial rfl rfl (fun hq => ?_) (fun hq => ?_)
    · rw [if_neg hq] at ih'
      refine mm_B ok_Mo_aboard 57 2 (57, [some (.ref 52), some (.int (nI i)), some (.int (nI k)), some (.int (nI w)), some (.int 0), some (.int (nI st.1)), some (.int (nI st.2 - 1)), some (.int (nI on)), some (.int ((nI (on + d)) + 1))], [], (hp_SH ++ dy, g3, r3)) [] rfl trivial ?_
      rw [nI_1]
      exact ih' g3 r3 (by omega) (hr3.trans hr) hF4 hnh3 h673
    · rw [if_pos hq] at ih'
      by_cases h2 : st.2 = 0
      · rw [if_pos h2] at ih'
        refine mm_I ok_Mo_aboard 45 3 88 [some (.ref 52), some (.int (nI i)), some (.int (nI k)), some (.int (nI w)), some (.int 0), some (.int ((nI st.1) + 1)), some (.int (nI st.2 - 1)), some (.int (nI on)), some (.int (nI (on + d)))] [.int (-1), .int (nI st.2 - 1)] (hp_SH ++ dy, g3, r3) [] rfl trivial rfl rfl (fun q => False.elim (q (by rw [h2]; rfl))) (fun _ => ?_)
        refine mm_B ok_Mo_aboard 49 6 (104, [some (.ref 52), some (.int (nI i)), some (.int (nI k)), some (.int (nI w)), some (.int 0), some (.int ((nI st.1) + 1)), some (.int (nI st.2 - 1)), some (.int (nI on)), some (.int (nI (on + d)))], [.int ((10 * (nI on)) + (nI (on + d)))], (hp_SH ++ dy, g3, r3)) [] rfl trivial ?_
        refine mm_B ok_Mo_aboard 56 3 (57, [some (.ref 52), some (.int (nI i)), some (.int (nI k)), some (.int (nI w)), some (.int 0), some (.int ((nI st.1) + 1)), some (.int ((10 * (nI on)) + (nI (on + d)))), some (.int (nI on)), some (.int ((nI (on + d)) + 1))], [], (hp_SH ++ dy, g3, r3)) [] rfl trivial ?_
        have h8 := ih' g3 r3 (by omega) (hr3.trans hr) hF4 hnh3 h673
        rw [show (10 : Int32) * nI on = nI (10 * on) from (Int32.ofNat_mul 10 on).symm, nI_add, nI_1 st.1, nI_1 (on + d)]
        rw [show nI (st.1 + 1, 10 * on + (on + d) + 1).2 - 1 = nI (10 * on + (on + d)) from nI_pred _] at h8
        exact h8
      · rw [if_neg h2] at ih'
        refine mm_I ok_Mo_aboard 45 3 88 [some (.ref 52), some (.int (nI i)), some (.int (nI k)), some (.int (nI w)), some (.int 0), some (.int ((nI st.1) + 1)), some (.int (nI st.2 - 1)), some (.int (nI on)), some (.int (nI (on + d)))] [.int (-1), .int (nI st.2 - 1)] (hp_SH ++ dy, g3, r3) [] rfl trivial rfl rfl (fun _ => ?_) (fun q => False.elim (m1_ne (l := st.2 - 1) (by omega) (by rw [← nI_sub (by omega)]; exact q)))
        refine mm_B ok_Mo_aboard 55 4 (57, [some (.ref 52), some (.int (nI i)), some (.int (nI k)), some (.int (nI w)), some (.int 0), some (.int ((nI st.1) + 1)), some (.int (nI st.2 - 1)), some (.int (nI on)), some (.int ((nI (on + d)) + 1))], [], (hp_SH ++ dy, g3, r3)) [] rfl trivial ?_
        rw [nI_1 st.1, nI_1 (on + d)]
        exact ih' g3 r3 (by omega) (hr3.trans hr) hF4 hnh3 h673
theorem mab_go (dy : List mm_Sh) (g : Nat → Nat → Int32) (r : (Nat → Nat → Int64) × Nat × (Nat → Int32)) {A : sA} (hI : MI (nr_ g) A) (hSI : SI A) {i k w : Nat} {p : Nat × Nat × (Nat → Int32)} (hi : i < A.2.1.1) (hk : k < 4) (hp : A.2.2.2.2.2.1 k = some p) (hp6 : p.2.1 = 6) (hw : w < 2) : ∀ (m on : Nat) (g1 : Nat → Nat → Int32) (r1 : (Nat → Nat → Int64) × Nat × (Nat → Int32)), on + m = 6 → r1.2 = r.2 → fr_ mz_ g g1 → nh_ (aC A) A.2.1.2.2.2 g1 → (∀ b, b < 6 → g1 67 b = pl_c (A.2.2.1.1 b)) → mm_W 75 M_Mo_aboard 0 0 (RM dy g r A (.int (if w = 0 then nI (ab_ A i p.2.2 6).1 else nI (ab_ A i p.2.2 6).2 - 1))) 0 0 (46, [some (.ref 52), some (.int (nI i)), some (.int (nI k)), some (.int (nI w)), some (.int 0), some (.int (nI (ab_ A i p.2.2 on).1)), some (.int (nI (ab_ A i p.2.2 on).2 - 1)), some (.int (nI on)), none], [], (hp_SH ++ dy, g1, r1)) := by
  intro m
  induction m with
  | zero =>
    intro on g1 r1 hon hr hF hnh h67
    rw [show on = 6 by omega]
    generalize hst : ab_ A i p.2.2 6 = st
    refine mm_I ok_Mo_aboard 27 2 50 [some (.ref 52), some (.int (nI i)), some (.int (nI k)), some (.int (nI w)), some (.int 0), some (.int (nI st.1)), some (.int (nI st.2 - 1)), some (.int (nI 6)), none] [.int 6, .int (nI 6)] (hp_SH ++ dy, g1, r1) [] rfl trivial rfl rfl (fun _ => ?_) (fun q => False.elim (q (by decide)))
    by_cases hw0 : w = 0
    · subst hw0
      rw [if_pos rfl]
      refine mm_I ok_Mo_aboard 61 1 119 [some (.ref 52), some (.int (nI i)), some (.int (nI k)), some (.int (nI 0)), some (.int 0), some (.int (nI st.1)), some (.int (nI st.2 - 1)), some (.int (nI 6)), none] [.int (nI 0)] (hp_SH ++ dy, g1, r1) [] rfl trivial rfl rfl (fun q => False.elim (q rfl)) (fun _ => ?_)
      refine mm_B ok_Mo_aboard 63 2 (129, [some (.ref 52), some (.int (nI i)), some (.int (nI k)), some (.int (nI 0)), some (.int 0), some (.int (nI st.1)), some (.int (nI st.2 - 1)), some (.int (nI 6)), none], [.int (nI st.1)], (hp_SH ++ dy, g1, r1)) [] rfl trivial ?_
      exact mm_ri rfl (mm_at ok_Mo_aboard (i := 66) rfl).1 ⟨Nat.le_refl _, Nat.le_refl _⟩ (RM_q hr hI (hF.mono dz_mz))
    · rw [if_neg hw0]
      refine mm_I ok_Mo_aboard 61 1 119 [some (.ref 52), some (.int (nI i)), some (.int (nI k)), some (.int (nI w)), some (.int 0), some (.int (nI st.1)), some (.int (nI st.2 - 1)), some (.int (nI 6)), none] [.int (nI w)] (hp_SH ++ dy, g1, r1) [] rfl trivial rfl rfl (fun _ => ?_) (fun q => False.elim (nI_ne0 (by omega) (by omega) q))
      refine mm_B ok_Mo_aboard 65 1 (129, [some (.ref 52), some (.int (nI i)), some (.int (nI k)), some (.int (nI w)), some (.int 0), some (.int (nI st.1)), some (.int (nI st.2 - 1)), some (.int (nI 6)), none], [.int (nI st.2 - 1)], (hp_SH ++ dy, g1, r1)) [] rfl trivial ?_
      exact mm_ri rfl (mm_at ok_Mo_aboard (i := 66) rfl).1 ⟨Nat.le_refl _, Nat.le_refl _⟩ (RM_q hr hI (hF.mono dz_mz))
  | succ m ih =>
    intro on g1 r1 hon hr hF hnh h67
    have hab := ab_le (A := A) (c := i) (v := p.2.2) on (by omega)
    have ih' := ih (on + 1)
    rw [show ab_ A i p.2.2 (on + 1) = bd_ (ab_i A i p.2.2 on) (6 - on) (ab_ A i p.2.2 on) from rfl] at ih'
    generalize hst : ab_ A i p.2.2 on = st at ih' hab ⊢
    refine mm_I ok_Mo_aboard 27 2 50 [some (.ref 52), some (.int (nI i)), some (.int (nI k)), some (.int (nI w)), some (.int 0), some (.int (nI st.1)), some (.int (nI st.2 - 1)), some (.int (nI on)), none] [.int 6, .int (nI on)] (hp_SH ++ dy, g1, r1) [] rfl trivial rfl rfl (fun q => False.elim (nI_ge (b := 6) (show on < 6 by omega) (by decide) q)) (fun _ => ?_)
    refine mm_B ok_Mo_aboard 30 2 (57, [some (.ref 52), some (.int (nI i)), some (.int (nI k)), some (.int (nI w)), some (.int 0), some (.int (nI st.1)), some (.int (nI st.2 - 1)), some (.int (nI on)), some (.int (nI on))], [], (hp_SH ++ dy, g1, r1)) [] rfl trivial ?_
    refine mab_in dy g r hI hSI hi hk hp hp6 hw (on := on) (by omega) (st0 := st) hab (fun g2 r2 hr2 hF2 hnh2 h672 => ?_) (6 - on) 0 g1 r1 (by omega) hr hF hnh h67
    generalize hst2 : bd_ (ab_i A i p.2.2 on) (6 - on) st = st2 at ih' ⊢
    refine mm_B ok_Mo_aboard 59 2 (46, [some (.ref 52), some (.int (nI i)), some (.int (nI k)), some (.int (nI w)), some (.int 0), some (.int (nI st2.1)), some (.int (nI st2.2 - 1)), some (.int ((nI on) + 1)), some (.int (nI 6))], [], (hp_SH ++ dy, g2, r2)) [] rfl trivial ?_
    refine mm_fg [8] ?_
    rw [nI_1]
    exact ih' g2 r2 (by omega) hr2 hF2 hnh2 h672
theorem cm_aboard (dy : List mm_Sh) (g : Nat → Nat → Int32) (r : (Nat → Nat → Int64) × Nat × (Nat → Int32)) {A : sA} (hI : MI (nr_ g) A) (hSI : SI A) (c s w : Int32) : mm_Ct 75 M_Mo_aboard [.ref 52, .int c, .int s, .int w] (hp_SH ++ dy, g, r) 0 0 (RM dy g r A (.int (an_aboard A c s w))) := by
  have hI' := hI
  obtain ⟨hL, hK, hPl, hX, hB, hS, hIm⟩ := hI'
  have hR := dX_R hX
  have h4 := hL.2.1
  have h6 := hK.2.1
  have e10 : g 52 10 = nI A.1.1 := by rw [← nr_eq g (k := 52) (j := 10) rfl]; exact hL.1
  have e14 : g 52 14 = nI A.2.1.1 := by rw [← nr_eq g (k := 52) (j := 14) rfl]; exact hK.1
  have hpl : ∀ b, b < 6 → g 62 b = pl_c (A.2.2.1.1 b) := fun b hb => by rw [← nr_eq g (k := 62) (j := b) rfl]; exact (hPl b hb).1
  have hot : ∀ b, b < 6 → g 62 (6 + b) = pl_c (A.2.2.1.2 b) := fun b hb => by rw [← nr_eq g (k := 62) (j := 6 + b) rfl]; exact (hPl b hb).2
  have hpo : ∀ b l, b < 6 → A.2.2.1.1 b = some l → l < A.1.1 := fun b l hb h => hSI.1 b l hb (Or.inl h)
  refine mm_start pl_Mo (Nat.le_of_ble_eq_true rfl) ?_
  by_cases h0 : an_rf A c s = 0
  · obtain ⟨i, k, p, hi, hk, rfl, rfl, hp, hp6, -, he⟩ := rf_0 h0
    rw [he]
    refine mm_B ok_Mo_aboard 0 3 (3, [some (.ref 52), some (.int (nI i)), some (.int (nI k)), some (.int w), none, none, none, none, none], [.int (nI k), .int (nI i), .ref 52], (hp_SH ++ dy, g, r)) [] rfl trivial ?_
    refine mm_cV (as := [.int (nI i), .int (nI k)]) (st := []) (q := 52) cw_Mo_examBad lk_Mo_326 in_Mo_examBad sl_Mo_examBad rfl rfl (mm_at ok_Mo_aboard (i := 3) rfl).1 (ct_Mo_examBad dy g r hI (nI i) (nI k)) (by decide) ⟨by omega, by omega⟩ (Nat.le_of_ble_eq_true rfl) (mm_vs_b (b := 77) rfl (hp_len dy)) (fun v h' hqq => ?_)
    obtain ⟨rfl, hqe⟩ := hqq; rw [hqe, h0]
    refine mm_I ok_Mo_aboard 4 2 10 [some (.ref 52), some (.int (nI i)), some (.int (nI k)), some (.int w), some (.int 0), none, none, none, none] [.int 0] (hp_SH ++ dy, g, r) [] rfl trivial rfl rfl (fun _ => ?_) (fun q => False.elim (q rfl))
    refine mm_B ok_Mo_aboard 9 4 (20, [some (.ref 52), some (.int (nI i)), some (.int (nI k)), some (.int w), some (.int 0), none, none, none, none], [.long 1, .long 0, .long (w).toInt64], (hp_SH ++ dy, g, r)) [] rfl trivial ?_
    refine mm_cS (as := [.long (w).toInt64, .long 0, .long 1]) (st := []) cw_Mo_in lk_Mo_100 sx_Mo_in (mm_at ok_Mo_aboard (i := 13) rfl).1 (ct_Mo_in (hp_SH ++ dy, g, r) w.toInt64 0 1) (by decide) ⟨by omega, by omega⟩ (Nat.le_of_ble_eq_true rfl) (mm_vs_b (b := 77) rfl (hp_len dy)) (fun v h' hqq => ?_)
    obtain ⟨rfl, hqe⟩ := hqq; rw [hqe]
    rw [in_2 w]
    cases hx : ix_ 2 w with
    | none =>
      refine mm_I ok_Mo_aboard 14 0 23 [some (.ref 52), some (.int (nI i)), some (.int (nI k)), some (.int w), some (.int 0), none, none, none, none] [.int (iz_ none)] (hp_SH ++ dy, g, r) [] rfl trivial rfl rfl (fun q => False.elim (q rfl)) (fun _ => ?_)
      refine mm_B ok_Mo_aboard 15 1 (28, [some (.ref 52), some (.int (nI i)), some (.int (nI k)), some (.int w), some (.int 0), none, none, none, none], [.int (-2)], (hp_SH ++ dy, g, r)) [] rfl trivial ?_
      exact mm_ri rfl (mm_at ok_Mo_aboard (i := 16) rfl).1 ⟨Nat.le_refl _, Nat.le_refl _⟩ (RM_q rfl hI fr_.rf)
    | some j =>
      obtain ⟨hj, rfl⟩ := ix_some (by decide) hx
      refine mm_I ok_Mo_aboard 14 0 23 [some (.ref 52), some (.int (nI i)), some (.int (nI k)), some (.int (nI j)), some (.int 0), none, none, none, none] [.int (iz_ (some j))] (hp_SH ++ dy, g, r) [] rfl trivial rfl rfl (fun _ => ?_) (fun q => False.elim (one0 q))
      refine mm_B ok_Mo_aboard 17 1 (30, [some (.ref 52), some (.int (nI i)), some (.int (nI k)), some (.int (nI j)), some (.int 0), none, none, none, none], [.ref 52], (hp_SH ++ dy, g, r)) [] rfl trivial ?_
      refine mm_cV (as := []) (st := []) (q := 52) cw_Mo_forgets lk_Mo_298 in_Mo_forgets sl_Mo_forgets rfl rfl (mm_at ok_Mo_aboard (i := 18) rfl).1 (ct_Mo_forgets dy g r) (by decide) ⟨by omega, by omega⟩ (Nat.le_of_ble_eq_true rfl) (mm_vs_b (b := 77) rfl (hp_len dy)) (fun v h' hqq => ?_)
      obtain ⟨rfl, g1, hqe, hF1, h63, h64⟩ := hqq; rw [hqe]
      refine mm_B ok_Mo_aboard 19 1 (34, [some (.ref 52), some (.int (nI i)), some (.int (nI k)), some (.int (nI j)), some (.int 0), none, none, none, none], [.ref 52], (hp_SH ++ dy, g1, r)) [] rfl trivial ?_
      refine mm_cV (as := []) (st := []) (q := 52) cw_Mo_takesPlan lk_Mo_301 in_Mo_takesPlan sl_Mo_takesPlan rfl rfl (mm_at ok_Mo_aboard (i := 20) rfl).1 (ct_Mo_takesPlan dy g1 r) (by decide) ⟨by omega, by omega⟩ (Nat.le_of_ble_eq_true rfl) (mm_vs_b (b := 77) rfl (hp_len dy)) (fun v h' hqq => ?_)
      obtain ⟨rfl, g2, hqe, hF2, h67⟩ := hqq; rw [hqe]
      obtain ⟨hF, hnh, hnw, h67'⟩ := beg_ok (C := aC A) (ag := A.2.1.2.2.2) hF1 h63 h64 hF2 h67 hpl
      have hP2 := hF.nr mz_nr (rfl : nr_ g = nr_ g)
      refine mm_B ok_Mo_aboard 21 6 (46, [some (.ref 52), some (.int (nI i)), some (.int (nI k)), some (.int (nI j)), some (.int 0), some (.int 0), some (.int (-1)), some (.int 0), none], [], (hp_SH ++ dy, g2, r)) [] rfl trivial ?_
      exact mab_go dy g r hI hSI hi hk hp hp6 hj 6 0 g2 r rfl rfl hF hnh h67'
  · rw [(rf_c h0).2 w]
    refine mm_B ok_Mo_aboard 0 3 (3, [some (.ref 52), some (.int c), some (.int s), some (.int w), none, none, none, none, none], [.int s, .int c, .ref 52], (hp_SH ++ dy, g, r)) [] rfl trivial ?_
    refine mm_cV (as := [.int c, .int s]) (st := []) (q := 52) cw_Mo_examBad lk_Mo_326 in_Mo_examBad sl_Mo_examBad rfl rfl (mm_at ok_Mo_aboard (i := 3) rfl).1 (ct_Mo_examBad dy g r hI c s) (by decide) ⟨by omega, by omega⟩ (Nat.le_of_ble_eq_true rfl) (mm_vs_b (b := 77) rfl (hp_len dy)) (fun v h' hqq => ?_)
    obtain ⟨rfl, hqe⟩ := hqq; rw [hqe]
    refine mm_I ok_Mo_aboard 4 2 10 [some (.ref 52), some (.int c), some (.int s), some (.int w), some (.int (an_rf A c s)), none, none, none, none] [.int (an_rf A c s)] (hp_SH ++ dy, g, r) [] rfl trivial rfl rfl (fun q => False.elim (h0 q)) (fun _ => ?_)
    refine mm_B ok_Mo_aboard 7 1 (15, [some (.ref 52), some (.int c), some (.int s), some (.int w), some (.int (an_rf A c s)), none, none, none, none], [.int (an_rf A c s)], (hp_SH ++ dy, g, r)) [] rfl trivial ?_
    exact mm_ri rfl (mm_at ok_Mo_aboard (i := 8) rfl).1 ⟨Nat.le_refl _, Nat.le_refl _⟩ (RM_q rfl hI fr_.rf)

