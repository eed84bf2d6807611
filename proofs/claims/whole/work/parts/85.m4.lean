/-! ===== the model's calls: twice, change, exam, aboard ===== -/
theorem h9_om {T : sp_T} {P : Nat → Nat → Int32} (h : rl_LM T P) : ∀ l, l < T.1 → T.2.2.1 l ≤ 9 := fun l hl => (h.2.2 l hl).2.2.2.1
theorem cm_twice_go (dy : List mm_Sh) (g : Nat → Nat → Int32) (r : (Nat → Nat → Int64) × Nat × (Nat → Int32)) {A : sA} (hI : MI (nr_ g) A) (hSI : SI A) {l w : Nat} (hl : l < A.1.1) (hw : w < 2) (x : Int32) (hx : x = if w = 0 ∨ (tw6 A.1 (aC A) A.2.1 A.2.2.1.1 l 6).2 = 0 then nI (tw6 A.1 (aC A) A.2.1 A.2.2.1.1 l 6).2 - 1 else nI (tw6 A.1 (aC A) A.2.1 A.2.2.1.1 l 6).1) : ∀ (m b : Nat) (g1 : Nat → Nat → Int32) (r1 : (Nat → Nat → Int64) × Nat × (Nat → Int32)), b + m = 6 → r1.2 = r.2 → fr_ mz_ g g1 → nh_ (aC A) A.2.1.2.2.2 g1 → nw_ (aC A) A.2.1.2.2.2 g1 → (∀ b, b < 6 → g1 67 b = pl_c (A.2.2.1.1 b)) → mm_W 75 M_Mo_twice 0 0 (RM dy g r A (.int x)) 0 0 (40, [some (.ref 52), some (.int (nI l)), some (.int (nI w)), some (.int (nI (tw6 A.1 (aC A) A.2.1 A.2.2.1.1 l b).1)), some (.int (nI (tw6 A.1 (aC A) A.2.1 A.2.2.1.1 l b).2 - 1)), some (.int (nI b)), none], [], (hp_SH ++ dy, g1, r1)) := by
  have hI' := hI
  obtain ⟨hL, hK, hPl, hX, hB, hS, hIm⟩ := hI'
  have hR := dX_R hX
  have h4 := hL.2.1
  have h6 := hK.2.1
  have h9 := h9_om hL
  have hpo : ∀ b l, b < 6 → A.2.2.1.1 b = some l → l < A.1.1 := fun b l hb h => hSI.1 b l hb (Or.inl h)
  have hb := tw_in (C := aC A) (pl := A.2.2.1.1) (l := l) h4 h9 h6
  intro m
  induction m with
  | zero =>
    intro b g1 r1 hbm hr hF hnh hnw h67
    rw [show b = 6 by omega]
    have hb6 := hb 6
    generalize hst : tw6 A.1 (aC A) A.2.1 A.2.2.1.1 l 6 = st at hx hb6 ⊢
    refine mm_I ok_Mo_twice 23 2 44 [some (.ref 52), some (.int (nI l)), some (.int (nI w)), some (.int (nI st.1)), some (.int (nI st.2 - 1)), some (.int (nI 6)), none] [.int 6, .int (nI 6)] (hp_SH ++ dy, g1, r1) [] rfl trivial rfl rfl (fun _ => ?_) (fun q => False.elim (q (by decide)))
    by_cases h2 : st.2 = 0
    · rw [hx, if_pos (Or.inr h2)]
      refine mm_I ok_Mo_twice 51 2 97 [some (.ref 52), some (.int (nI l)), some (.int (nI w)), some (.int (nI st.1)), some (.int (nI st.2 - 1)), some (.int (nI 6)), none] [.int (-1), .int (nI st.2 - 1)] (hp_SH ++ dy, g1, r1) [] rfl trivial rfl rfl (fun _ => ?_) (fun q => False.elim (q (by rw [h2]; rfl)))
      refine mm_B ok_Mo_twice 56 2 (110, [some (.ref 52), some (.int (nI l)), some (.int (nI w)), some (.int (nI st.1)), some (.int (nI st.2 - 1)), some (.int (nI 6)), none], [.int (nI st.2 - 1)], (hp_SH ++ dy, g1, r1)) [] rfl trivial ?_
      exact mm_ri rfl (mm_at ok_Mo_twice (i := 59) rfl).1 ⟨Nat.le_refl _, Nat.le_refl _⟩ (RM_q hr hI (hF.mono dz_mz))
    · refine mm_I ok_Mo_twice 51 2 97 [some (.ref 52), some (.int (nI l)), some (.int (nI w)), some (.int (nI st.1)), some (.int (nI st.2 - 1)), some (.int (nI 6)), none] [.int (-1), .int (nI st.2 - 1)] (hp_SH ++ dy, g1, r1) [] rfl trivial rfl rfl (fun q => False.elim (m1_ne (l := st.2 - 1) (by omega) (by rw [← nI_sub (by omega)]; exact q))) (fun _ => ?_)
      by_cases hw0 : w = 0
      · subst hw0
        rw [hx, if_pos (Or.inl rfl)]
        refine mm_I ok_Mo_twice 54 1 101 [some (.ref 52), some (.int (nI l)), some (.int (nI 0)), some (.int (nI st.1)), some (.int (nI st.2 - 1)), some (.int (nI 6)), none] [.int (nI 0)] (hp_SH ++ dy, g1, r1) [] rfl trivial rfl rfl (fun q => False.elim (q rfl)) (fun _ => ?_)
        refine mm_B ok_Mo_twice 56 2 (110, [some (.ref 52), some (.int (nI l)), some (.int (nI 0)), some (.int (nI st.1)), some (.int (nI st.2 - 1)), some (.int (nI 6)), none], [.int (nI st.2 - 1)], (hp_SH ++ dy, g1, r1)) [] rfl trivial ?_
        exact mm_ri rfl (mm_at ok_Mo_twice (i := 59) rfl).1 ⟨Nat.le_refl _, Nat.le_refl _⟩ (RM_q hr hI (hF.mono dz_mz))
      · rw [hx, if_neg (fun q => q.elim hw0 h2)]
        refine mm_I ok_Mo_twice 54 1 101 [some (.ref 52), some (.int (nI l)), some (.int (nI w)), some (.int (nI st.1)), some (.int (nI st.2 - 1)), some (.int (nI 6)), none] [.int (nI w)] (hp_SH ++ dy, g1, r1) [] rfl trivial rfl rfl (fun _ => ?_) (fun q => False.elim (nI_ne0 (by omega) (by omega) q))
        refine mm_B ok_Mo_twice 58 1 (110, [some (.ref 52), some (.int (nI l)), some (.int (nI w)), some (.int (nI st.1)), some (.int (nI st.2 - 1)), some (.int (nI 6)), none], [.int (nI st.1)], (hp_SH ++ dy, g1, r1)) [] rfl trivial ?_
        exact mm_ri rfl (mm_at ok_Mo_twice (i := 59) rfl).1 ⟨Nat.le_refl _, Nat.le_refl _⟩ (RM_q hr hI (hF.mono dz_mz))
  | succ m ih =>
    intro b g1 r1 hbm hr hF hnh hnw h67
    have hb6 := hb b
    have hn : tw6 A.1 (aC A) A.2.1 A.2.2.1.1 l (b + 1) = tw_ A.1 (aC A) A.2.1 A.2.2.1.1 l b (tw6 A.1 (aC A) A.2.1 A.2.2.1.1 l b) := rfl
    have ih' := ih (b + 1)
    rw [hn] at ih'
    generalize hst : tw6 A.1 (aC A) A.2.1 A.2.2.1.1 l b = st at hb6 ih' ⊢
    have hpw : ∀ j, j < 6 → mm_up g1 67 b (nI l) 67 j = pl_c (pw_ A.2.2.1.1 b l j) := fun j hj => by
      unfold pw_
      by_cases e : j = b
      · rw [e, mm_up_at, if_pos rfl]; rfl
      · rw [mm_up_no e, if_neg e]
        exact h67 j hj
    have hpo' : ∀ j l', j < 6 → pw_ A.2.2.1.1 b l j = some l' → l' < A.1.1 := fun j l' hj h => by
      unfold pw_ at h
      split at h
      · cases h; exact hl
      · exact hpo j l' hj h
    have hF2 : fr_ mz_ g (mm_up g1 67 b (nI l)) := hF.up _ rfl
    refine mm_I ok_Mo_twice 23 2 44 [some (.ref 52), some (.int (nI l)), some (.int (nI w)), some (.int (nI st.1)), some (.int (nI st.2 - 1)), some (.int (nI b)), none] [.int 6, .int (nI b)] (hp_SH ++ dy, g1, r1) [] rfl trivial rfl rfl (fun q => False.elim (nI_ge (b := 6) (show b < 6 by omega) (by decide) q)) (fun _ => ?_)
    refine mm_B ok_Mo_twice 26 6 (56, [some (.ref 52), some (.int (nI l)), some (.int (nI w)), some (.int (nI st.1)), some (.int (nI st.2 - 1)), some (.int (nI b)), none], [.ref 52], (hp_SH ++ dy, mm_up g1 67 ((nI b).toNatClampNeg) (nI l), r1)) [vp_in (nI b) 6] rfl (show vp_in (nI b) 6 from (nI_vi (show b < 6 by omega) (by decide))) ?_
    rw [nI_clamp (show b < 2 ^ 31 by omega)]
    refine mm_cV (as := []) (st := []) (q := 52) cw_Mo_allPoints lk_Mo_304 in_Mo_allPoints sl_Mo_allPoints rfl rfl (mm_at ok_Mo_twice (i := 32) rfl).1 (ct_Mo_allPoints dy _ (nr_ g) r1 (hF2.nr mz_nr rfl) hR hL hK hpw hpo' (nh_fr hnh (fun _ => rfl)) (nw_fr hnw (fun _ => rfl))) (by decide) ⟨by omega, by omega⟩ (Nat.le_of_ble_eq_true rfl) (mm_vs_b (b := 77) rfl (hp_len dy)) (fun v h' hqq => ?_)
    obtain ⟨rfl, g2, r2, hqe, hr2, hF3, hnh3, hnw3⟩ := hqq; rw [hqe]
    have hF4 := hF2.tr (hF3.mono mz_mp)
    have ha := al_le (C := aC A) (pl := pw_ A.2.2.1.1 b l) h4 h9 h6
    have e62 : g2 62 b = pl_c (A.2.2.1.1 b) := by rw [nr_at (hF4.nr mz_nr (rfl : nr_ g = nr_ g)) 62 b rfl]; exact (hPl b (by omega)).1
    have hb67 : ∀ j, j < 6 → mm_up g2 67 b (pl_c (A.2.2.1.1 b)) 67 j = pl_c (A.2.2.1.1 j) := fun j hj => by
      by_cases e : j = b
      · rw [e, mm_up_at]
      · rw [mm_up_no e, hF3 67 j rfl, mm_up_no e]
        exact h67 j hj
    have hF5 : fr_ mz_ g (mm_up g2 67 b (pl_c (A.2.2.1.1 b))) := hF4.up _ rfl
    have hgo : ∀ st', tw_ A.1 (aC A) A.2.1 A.2.2.1.1 l b st = st' → mm_W 75 M_Mo_twice 0 0 (RM dy g r A (.int x)) 0 0 (40, [some (.ref 52), some (.int (nI l)), some (.int (nI w)), some (.int (nI st'.1)), some (.int (nI st'.2 - 1)), some (.int (nI (b + 1))), none], [], (hp_SH ++ dy, mm_up g2 67 b (pl_c (A.2.2.1.1 b)), r2)) := fun st' h => by
      rw [h] at ih'
      exact ih' _ r2 (by omega) (hr2.trans hr) hF5 (nh_fr hnh3 (fun _ => rfl)) (nw_fr hnw3 (fun _ => rfl)) hb67
    refine mm_B ok_Mo_twice 33 11 (78, [some (.ref 52), some (.int (nI l)), some (.int (nI w)), some (.int (nI st.1)), some (.int (nI st.2 - 1)), some (.int (nI b)), some (.int (nI (sp_all A.1 (aC A) A.2.1 (pw_ A.2.2.1.1 b l))))], [.int (nI st.1), .int (nI (sp_all A.1 (aC A) A.2.1 (pw_ A.2.2.1.1 b l)))], (hp_SH ++ dy, mm_up g2 67 ((nI b).toNatClampNeg) (g2 62 ((nI b).toNatClampNeg)), r2)) [vp_in (nI b) 12, vp_in (nI b) 6] rfl (show (vp_in (nI b) 12) ∧ (vp_in (nI b) 6) from ⟨(nI_vi (show b < 12 by omega) (by decide)), (nI_vi (show b < 6 by omega) (by decide))⟩) ?_
    rw [nI_clamp (show b < 2 ^ 31 by omega), e62]
    refine mm_I ok_Mo_twice 44 0 78 [some (.ref 52), some (.int (nI l)), some (.int (nI w)), some (.int (nI st.1)), some (.int (nI st.2 - 1)), some (.int (nI b)), some (.int (nI (sp_all A.1 (aC A) A.2.1 (pw_ A.2.2.1.1 b l))))] [.int (nI st.1), .int (nI (sp_all A.1 (aC A) A.2.1 (pw_ A.2.2.1.1 b l)))] (hp_SH ++ dy, (mm_up g2 67 b (pl_c (A.2.2.1.1 b))), r2) [] rfl trivial rfl rfl (fun hc => ?_) (fun hc => ?_)
    · have h8 := hgo st (by unfold tw_; exact if_neg (fun q => absurd ((nI_leI (by omega) (by omega)).mp hc) (by omega)))
      refine mm_B ok_Mo_twice 49 2 (40, [some (.ref 52), some (.int (nI l)), some (.int (nI w)), some (.int (nI st.1)), some (.int (nI st.2 - 1)), some (.int ((nI b) + 1)), some (.int (nI (sp_all A.1 (aC A) A.2.1 (pw_ A.2.2.1.1 b l))))], [], (hp_SH ++ dy, (mm_up g2 67 b (pl_c (A.2.2.1.1 b))), r2)) [] rfl trivial ?_
      refine mm_fg [6] ?_
      rw [nI_1]
      exact h8
    · have h8 := hgo (sp_all A.1 (aC A) A.2.1 (pw_ A.2.2.1.1 b l), b + 1) (by unfold tw_; exact if_pos (by have := mt (nI_leI (a := sp_all A.1 (aC A) A.2.1 (pw_ A.2.2.1.1 b l)) (b := st.1) (by omega) (by omega)).mpr hc; omega))
      rw [show nI (sp_all A.1 (aC A) A.2.1 (pw_ A.2.2.1.1 b l), b + 1).2 - 1 = nI b from nI_pred b] at h8
      refine mm_B ok_Mo_twice 45 6 (40, [some (.ref 52), some (.int (nI l)), some (.int (nI w)), some (.int (nI (sp_all A.1 (aC A) A.2.1 (pw_ A.2.2.1.1 b l)))), some (.int (nI b)), some (.int ((nI b) + 1)), some (.int (nI (sp_all A.1 (aC A) A.2.1 (pw_ A.2.2.1.1 b l))))], [], (hp_SH ++ dy, (mm_up g2 67 b (pl_c (A.2.2.1.1 b))), r2)) [] rfl trivial ?_
      refine mm_fg [6] ?_
      rw [nI_1]
      exact h8
theorem cm_twice (dy : List mm_Sh) (g : Nat → Nat → Int32) (r : (Nat → Nat → Int64) × Nat × (Nat → Int32)) {A : sA} (hI : MI (nr_ g) A) (hSI : SI A) (l w : Int32) : mm_Ct 75 M_Mo_twice [.ref 52, .int l, .int w] (hp_SH ++ dy, g, r) 0 0 (RM dy g r A (.int (an_twice A l w))) := by
  have hI' := hI
  obtain ⟨hL, hK, hPl, hX, hB, hS, hIm⟩ := hI'
  have hR := dX_R hX
  have h4 := hL.2.1
  have h6 := hK.2.1
  have e10 : g 52 10 = nI A.1.1 := by rw [← nr_eq g (k := 52) (j := 10) rfl]; exact hL.1
  have e14 : g 52 14 = nI A.2.1.1 := by rw [← nr_eq g (k := 52) (j := 14) rfl]; exact hK.1
  have hpl : ∀ b, b < 6 → g 62 b = pl_c (A.2.2.1.1 b) := fun b hb => by rw [← nr_eq g (k := 62) (j := b) rfl]; exact (hPl b hb).1
  have hot : ∀ b, b < 6 → g 62 (6 + b) = pl_c (A.2.2.1.2 b) := fun b hb => by rw [← nr_eq g (k := 62) (j := 6 + b) rfl]; exact (hPl b hb).2
  have hpo : ∀ b l, b < 6 → A.2.2.1.1 b = some l → l < A.1.1 := fun b l hb h => hSI.1 b l hb (Or.inl h)
  refine mm_start pl_Mo (Nat.le_of_ble_eq_true rfl) ?_
  cases hx1 : ix_ A.1.1 l with
  | none =>
    rw [show an_twice A l w = (-2) by unfold an_twice; rw [hx1]]
    refine mm_B ok_Mo_twice 0 2 (2, [some (.ref 52), some (.int l), some (.int w), none, none, none, none], [.int l, .ref 52], (hp_SH ++ dy, g, r)) [] rfl trivial ?_
    refine mm_cV (as := [.int l]) (st := []) (q := 52) cw_Mo_isLesson lk_Mo_117 in_Mo_isLesson sl_Mo_isLesson rfl rfl (mm_at ok_Mo_twice (i := 2) rfl).1 (ct_Mo_isLesson dy g r l) (by decide) ⟨by omega, by omega⟩ (Nat.le_of_ble_eq_true rfl) (mm_vs_b (b := 77) rfl (hp_len dy)) (fun v h' hqq => ?_)
    obtain ⟨rfl, hqe⟩ := hqq; rw [hqe]
    rw [ml_x (by omega) e10 l, hx1]
    refine mm_I ok_Mo_twice 3 0 5 [some (.ref 52), some (.int l), some (.int w), none, none, none, none] [.int (iz_ none)] (hp_SH ++ dy, g, r) [] rfl trivial rfl rfl (fun _ => ?_) (fun q => False.elim (q rfl))
    refine mm_B ok_Mo_twice 10 1 (20, [some (.ref 52), some (.int l), some (.int w), none, none, none, none], [.int (-2)], (hp_SH ++ dy, g, r)) [] rfl trivial ?_
    exact mm_ri rfl (mm_at ok_Mo_twice (i := 11) rfl).1 ⟨Nat.le_refl _, Nat.le_refl _⟩ (RM_q rfl hI fr_.rf)
  | some i =>
    obtain ⟨hl1, rfl⟩ := ix_some (by omega) hx1
    cases hx2 : ix_ 2 w with
    | none =>
      rw [show an_twice A (nI i) w = (-2) by unfold an_twice; rw [hx1, hx2]]
      refine mm_B ok_Mo_twice 0 2 (2, [some (.ref 52), some (.int (nI i)), some (.int w), none, none, none, none], [.int (nI i), .ref 52], (hp_SH ++ dy, g, r)) [] rfl trivial ?_
      refine mm_cV (as := [.int (nI i)]) (st := []) (q := 52) cw_Mo_isLesson lk_Mo_117 in_Mo_isLesson sl_Mo_isLesson rfl rfl (mm_at ok_Mo_twice (i := 2) rfl).1 (ct_Mo_isLesson dy g r (nI i)) (by decide) ⟨by omega, by omega⟩ (Nat.le_of_ble_eq_true rfl) (mm_vs_b (b := 77) rfl (hp_len dy)) (fun v h' hqq => ?_)
      obtain ⟨rfl, hqe⟩ := hqq; rw [hqe]
      rw [ml_x (by omega) e10 (nI i), ix_at hl1 (by omega)]
      refine mm_I ok_Mo_twice 3 0 5 [some (.ref 52), some (.int (nI i)), some (.int w), none, none, none, none] [.int (iz_ (some i))] (hp_SH ++ dy, g, r) [] rfl trivial rfl rfl (fun q => False.elim (one0 q)) (fun _ => ?_)
      refine mm_B ok_Mo_twice 4 4 (12, [some (.ref 52), some (.int (nI i)), some (.int w), none, none, none, none], [.long 1, .long 0, .long (w).toInt64], (hp_SH ++ dy, g, r)) [] rfl trivial ?_
      refine mm_cS (as := [.long (w).toInt64, .long 0, .long 1]) (st := []) cw_Mo_in lk_Mo_100 sx_Mo_in (mm_at ok_Mo_twice (i := 8) rfl).1 (ct_Mo_in (hp_SH ++ dy, g, r) w.toInt64 0 1) (by decide) ⟨by omega, by omega⟩ (Nat.le_of_ble_eq_true rfl) (mm_vs_b (b := 77) rfl (hp_len dy)) (fun v h' hqq => ?_)
      obtain ⟨rfl, hqe⟩ := hqq; rw [hqe]
      rw [in_2 w, hx2]
      refine mm_I ok_Mo_twice 9 0 15 [some (.ref 52), some (.int (nI i)), some (.int w), none, none, none, none] [.int (iz_ none)] (hp_SH ++ dy, g, r) [] rfl trivial rfl rfl (fun q => False.elim (q rfl)) (fun _ => ?_)
      refine mm_B ok_Mo_twice 10 1 (20, [some (.ref 52), some (.int (nI i)), some (.int w), none, none, none, none], [.int (-2)], (hp_SH ++ dy, g, r)) [] rfl trivial ?_
      exact mm_ri rfl (mm_at ok_Mo_twice (i := 11) rfl).1 ⟨Nat.le_refl _, Nat.le_refl _⟩ (RM_q rfl hI fr_.rf)
    | some j =>
      obtain ⟨hl2, rfl⟩ := ix_some (by omega) hx2
      rw [show an_twice A (nI i) (nI j) = (if j = 0 ∨ (tw6 A.1 (aC A) A.2.1 A.2.2.1.1 i 6).2 = 0 then nI (tw6 A.1 (aC A) A.2.1 A.2.2.1.1 i 6).2 - 1 else nI (tw6 A.1 (aC A) A.2.1 A.2.2.1.1 i 6).1) from by unfold an_twice; rw [hx1, hx2]]
      refine mm_B ok_Mo_twice 0 2 (2, [some (.ref 52), some (.int (nI i)), some (.int (nI j)), none, none, none, none], [.int (nI i), .ref 52], (hp_SH ++ dy, g, r)) [] rfl trivial ?_
      refine mm_cV (as := [.int (nI i)]) (st := []) (q := 52) cw_Mo_isLesson lk_Mo_117 in_Mo_isLesson sl_Mo_isLesson rfl rfl (mm_at ok_Mo_twice (i := 2) rfl).1 (ct_Mo_isLesson dy g r (nI i)) (by decide) ⟨by omega, by omega⟩ (Nat.le_of_ble_eq_true rfl) (mm_vs_b (b := 77) rfl (hp_len dy)) (fun v h' hqq => ?_)
      obtain ⟨rfl, hqe⟩ := hqq; rw [hqe]
      rw [ml_x (by omega) e10 (nI i), ix_at hl1 (by omega)]
      refine mm_I ok_Mo_twice 3 0 5 [some (.ref 52), some (.int (nI i)), some (.int (nI j)), none, none, none, none] [.int (iz_ (some i))] (hp_SH ++ dy, g, r) [] rfl trivial rfl rfl (fun q => False.elim (one0 q)) (fun _ => ?_)
      refine mm_B ok_Mo_twice 4 4 (12, [some (.ref 52), some (.int (nI i)), some (.int (nI j)), none, none, none, none], [.long 1, .long 0, .long ((nI j)).toInt64], (hp_SH ++ dy, g, r)) [] rfl trivial ?_
      refine mm_cS (as := [.long ((nI j)).toInt64, .long 0, .long 1]) (st := []) cw_Mo_in lk_Mo_100 sx_Mo_in (mm_at ok_Mo_twice (i := 8) rfl).1 (ct_Mo_in (hp_SH ++ dy, g, r) (nI j).toInt64 0 1) (by decide) ⟨by omega, by omega⟩ (Nat.le_of_ble_eq_true rfl) (mm_vs_b (b := 77) rfl (hp_len dy)) (fun v h' hqq => ?_)
      obtain ⟨rfl, hqe⟩ := hqq; rw [hqe]
      rw [in_2 (nI j), ix_at hl2 (by omega)]
      refine mm_I ok_Mo_twice 9 0 15 [some (.ref 52), some (.int (nI i)), some (.int (nI j)), none, none, none, none] [.int (iz_ (some j))] (hp_SH ++ dy, g, r) [] rfl trivial rfl rfl (fun _ => ?_) (fun q => False.elim (one0 q))
      refine mm_B ok_Mo_twice 12 1 (22, [some (.ref 52), some (.int (nI i)), some (.int (nI j)), none, none, none, none], [.ref 52], (hp_SH ++ dy, g, r)) [] rfl trivial ?_
      refine mm_cV (as := []) (st := []) (q := 52) cw_Mo_forgets lk_Mo_298 in_Mo_forgets sl_Mo_forgets rfl rfl (mm_at ok_Mo_twice (i := 13) rfl).1 (ct_Mo_forgets dy g r) (by decide) ⟨by omega, by omega⟩ (Nat.le_of_ble_eq_true rfl) (mm_vs_b (b := 77) rfl (hp_len dy)) (fun v h' hqq => ?_)
      obtain ⟨rfl, g1, hqe, hF1, h63, h64⟩ := hqq; rw [hqe]
      refine mm_B ok_Mo_twice 14 1 (26, [some (.ref 52), some (.int (nI i)), some (.int (nI j)), none, none, none, none], [.ref 52], (hp_SH ++ dy, g1, r)) [] rfl trivial ?_
      refine mm_cV (as := []) (st := []) (q := 52) cw_Mo_takesPlan lk_Mo_301 in_Mo_takesPlan sl_Mo_takesPlan rfl rfl (mm_at ok_Mo_twice (i := 15) rfl).1 (ct_Mo_takesPlan dy g1 r) (by decide) ⟨by omega, by omega⟩ (Nat.le_of_ble_eq_true rfl) (mm_vs_b (b := 77) rfl (hp_len dy)) (fun v h' hqq => ?_)
      obtain ⟨rfl, g2, hqe, hF2, h67⟩ := hqq; rw [hqe]
      obtain ⟨hF, hnh, hnw, h67'⟩ := beg_ok (C := aC A) (ag := A.2.1.2.2.2) hF1 h63 h64 hF2 h67 hpl
      have hP2 := hF.nr mz_nr (rfl : nr_ g = nr_ g)
      refine mm_B ok_Mo_twice 16 1 (30, [some (.ref 52), some (.int (nI i)), some (.int (nI j)), none, none, none, none], [.ref 52], (hp_SH ++ dy, g2, r)) [] rfl trivial ?_
      refine mm_cV (as := []) (st := []) (q := 52) cw_Mo_allPoints lk_Mo_304 in_Mo_allPoints sl_Mo_allPoints rfl rfl (mm_at ok_Mo_twice (i := 17) rfl).1 (ct_Mo_allPoints dy g2 (nr_ g) r hP2 hR hL hK h67' hpo hnh hnw) (by decide) ⟨by omega, by omega⟩ (Nat.le_of_ble_eq_true rfl) (mm_vs_b (b := 77) rfl (hp_len dy)) (fun v h' hqq => ?_)
      obtain ⟨rfl, g3, r3, hqe, hr3, hF3, hnh3, hnw3⟩ := hqq; rw [hqe]
      refine mm_B ok_Mo_twice 18 5 (40, [some (.ref 52), some (.int (nI i)), some (.int (nI j)), some (.int (nI (sp_all A.1 (aC A) A.2.1 A.2.2.1.1))), some (.int (-1)), some (.int 0), none], [], (hp_SH ++ dy, g3, r3)) [] rfl trivial ?_
      exact cm_twice_go dy g r hI hSI hl1 hl2 _ rfl 6 0 g3 r3 rfl hr3 (hF.tr (hF3.mono mz_mp)) hnh3 hnw3 (fun b hb => (hF3 67 b rfl).trans (h67' b hb))
theorem cm_change_go (dy : List mm_Sh) (g : Nat → Nat → Int32) (r : (Nat → Nat → Int64) × Nat × (Nat → Int32)) {A : sA} (hI : MI (nr_ g) A) (hSI : SI A) {c : Nat} (hc : c < A.2.1.1) : ∀ (m d : Nat) (g1 : Nat → Nat → Int32) (r1 : (Nat → Nat → Int64) × Nat × (Nat → Int32)), d + m = A.2.1.2.2.1 c + 1 - A.2.1.2.1 c → r1.2 = r.2 → fr_ mz_ g g1 → nh_ (aC A) A.2.1.2.2.2 g1 → nw_ (aC A) A.2.1.2.2.2 g1 → mm_W 75 M_Mo_change 0 0 (RM dy g r A (.int (nI (cwn A.1 (aC A) A.2.1 A.2.2.1.1 A.2.2.1.2 c (A.2.1.2.2.1 c + 1 - A.2.1.2.1 c)).2 - 1))) 0 0 (67, [some (.ref 52), some (.int (nI c)), some (.int (-1)), some (.int (nI (cwn A.1 (aC A) A.2.1 A.2.2.1.1 A.2.2.1.2 c d).2 - 1)), some (.int (nI (cwn A.1 (aC A) A.2.1 A.2.2.1.1 A.2.2.1.2 c d).1 - 1)), some (.int (nI (A.2.1.2.1 c + d))), none], [], (hp_SH ++ dy, g1, r1)) := by
  have hI' := hI
  obtain ⟨hL, hK, hPl, hX, hB, hS, hIm⟩ := hI'
  have hR := dX_R hX
  have h4 := hL.2.1
  have h6 := hK.2.1
  have h9 := h9_om hL
  obtain ⟨k1, k2, k3, k4, k5⟩ := hK.2.2 c hc
  have hb := cw_in (C := aC A) (K := A.2.1) (pl := A.2.2.1.1) (ot := A.2.2.1.2) (c := c) h4 h9
  intro m
  induction m with
  | zero =>
    intro d g1 r1 hd hr hF hnh hnw
    have e60 : g1 60 (nI c).toNatClampNeg = nI (A.2.1.2.2.1 c) := by rw [nI_clamp (by omega), nr_at (hF.nr mz_nr (rfl : nr_ g = nr_ g)) 60 c rfl]; exact k2
    rw [← show d = A.2.1.2.2.1 c + 1 - A.2.1.2.1 c by omega]
    generalize hst : cwn A.1 (aC A) A.2.1 A.2.2.1.1 A.2.2.1.2 c d = st
    refine mm_B ok_Mo_change 42 5 (75, [some (.ref 52), some (.int (nI c)), some (.int (-1)), some (.int (nI st.2 - 1)), some (.int (nI st.1 - 1)), some (.int (nI (A.2.1.2.1 c + d))), none], [.int (g1 60 ((nI c).toNatClampNeg)), .int (nI (A.2.1.2.1 c + d))], (hp_SH ++ dy, g1, r1)) [vp_in (nI c) 6] rfl (show vp_in (nI c) 6 from (nI_vi (by omega) (by decide))) ?_
    rw [e60]
    refine mm_I ok_Mo_change 47 0 75 [some (.ref 52), some (.int (nI c)), some (.int (-1)), some (.int (nI st.2 - 1)), some (.int (nI st.1 - 1)), some (.int (nI (A.2.1.2.1 c + d))), none] [.int (nI (A.2.1.2.2.1 c)), .int (nI (A.2.1.2.1 c + d))] (hp_SH ++ dy, g1, r1) [] rfl trivial rfl rfl (fun _ => ?_) (fun q => False.elim (q (nI_lt (by omega) (by omega))))
    refine mm_B ok_Mo_change 62 1 (108, [some (.ref 52), some (.int (nI c)), some (.int (-1)), some (.int (nI st.2 - 1)), some (.int (nI st.1 - 1)), some (.int (nI (A.2.1.2.1 c + d))), none], [.int (nI st.2 - 1)], (hp_SH ++ dy, g1, r1)) [] rfl trivial ?_
    exact mm_ri rfl (mm_at ok_Mo_change (i := 63) rfl).1 ⟨Nat.le_refl _, Nat.le_refl _⟩ (RM_q hr hI (hF.mono dz_mz))
  | succ m ih =>
    intro d g1 r1 hd hr hF hnh hnw
    have hP1 := hF.nr mz_nr (rfl : nr_ g = nr_ g)
    have e60 : g1 60 (nI c).toNatClampNeg = nI (A.2.1.2.2.1 c) := by rw [nI_clamp (by omega), nr_at hP1 60 c rfl]; exact k2
    have hb6 := hb d
    have hn : cwn A.1 (aC A) A.2.1 A.2.2.1.1 A.2.2.1.2 c (d + 1) = cw_ A.1 (aC A) A.2.1 A.2.2.1.1 A.2.2.1.2 c d (cwn A.1 (aC A) A.2.1 A.2.2.1.1 A.2.2.1.2 c d) := rfl
    have ih' := ih (d + 1)
    rw [hn] at ih'
    generalize hst : cwn A.1 (aC A) A.2.1 A.2.2.1.1 A.2.2.1.2 c d = st at hb6 ih' ⊢
    refine mm_B ok_Mo_change 42 5 (75, [some (.ref 52), some (.int (nI c)), some (.int (-1)), some (.int (nI st.2 - 1)), some (.int (nI st.1 - 1)), some (.int (nI (A.2.1.2.1 c + d))), none], [.int (g1 60 ((nI c).toNatClampNeg)), .int (nI (A.2.1.2.1 c + d))], (hp_SH ++ dy, g1, r1)) [vp_in (nI c) 6] rfl (show vp_in (nI c) 6 from (nI_vi (by omega) (by decide))) ?_
    rw [e60]
    refine mm_I ok_Mo_change 47 0 75 [some (.ref 52), some (.int (nI c)), some (.int (-1)), some (.int (nI st.2 - 1)), some (.int (nI st.1 - 1)), some (.int (nI (A.2.1.2.1 c + d))), none] [.int (nI (A.2.1.2.2.1 c)), .int (nI (A.2.1.2.1 c + d))] (hp_SH ++ dy, g1, r1) [] rfl trivial rfl rfl (fun q => False.elim (absurd q (nI_nlt (by omega) (by omega)))) (fun _ => ?_)
    refine mm_B ok_Mo_change 48 3 (82, [some (.ref 52), some (.int (nI c)), some (.int (-1)), some (.int (nI st.2 - 1)), some (.int (nI st.1 - 1)), some (.int (nI (A.2.1.2.1 c + d))), none], [.int (nI (A.2.1.2.1 c + d)), .int (nI c), .ref 52], (hp_SH ++ dy, g1, r1)) [] rfl trivial ?_
    refine mm_cV (as := [.int (nI c), .int (nI (A.2.1.2.1 c + d))]) (st := []) (q := 52) cw_Mo_changeAt lk_Mo_320 in_Mo_changeAt sl_Mo_changeAt rfl rfl (mm_at ok_Mo_change (i := 51) rfl).1 (ct_Mo_changeAt dy g1 (nr_ g) r1 hP1 hR hL hK hc (last := A.2.1.2.1 c + d) (by omega) hPl hSI.1 hnh hnw) (by decide) ⟨by omega, by omega⟩ (Nat.le_of_ble_eq_true rfl) (mm_vs_b (b := 77) rfl (hp_len dy)) (fun v h' hqq => ?_)
    obtain ⟨rfl, g2, r2, hqe, hr2, hF2, hnh2, hnw2⟩ := hqq; rw [hqe]
    have hF4 := hF.tr hF2
    have ha := pt_le (C := aC A) (K := A.2.1) (pl := cg_ A.2.2.1.1 A.2.2.1.2 (A.2.1.2.1 c + d)) (c := c) h4 h9
    unfold cw_ at ih'
    rw [show (fun b => if b ≤ A.2.1.2.1 c + d then A.2.2.1.1 b else A.2.2.1.2 b) = cg_ A.2.2.1.1 A.2.2.1.2 (A.2.1.2.1 c + d) from rfl]
    generalize hsp : sp_pts A.1 (aC A) A.2.1 (cg_ A.2.2.1.1 A.2.2.1.2 (A.2.1.2.1 c + d)) c = sp at ha ih' ⊢
    refine mm_I ok_Mo_change 52 3 91 [some (.ref 52), some (.int (nI c)), some (.int (-1)), some (.int (nI st.2 - 1)), some (.int (nI st.1 - 1)), some (.int (nI (A.2.1.2.1 c + d))), some (.int (nI sp))] [.int (nI st.1 - 1), .int (nI sp)] (hp_SH ++ dy, g2, r2) [] rfl trivial rfl rfl (fun hc2 => ?_) (fun hc2 => ?_)
    · rw [if_neg (fun q => absurd ((w1_le (by omega) (by omega)).mp hc2) (by omega))] at ih'
      refine mm_B ok_Mo_change 60 2 (67, [some (.ref 52), some (.int (nI c)), some (.int (-1)), some (.int (nI st.2 - 1)), some (.int (nI st.1 - 1)), some (.int ((nI (A.2.1.2.1 c + d)) + 1)), some (.int (nI sp))], [], (hp_SH ++ dy, g2, r2)) [] rfl trivial ?_
      refine mm_fg [6] ?_
      rw [nI_1]
      exact ih' g2 r2 (by omega) (hr2.trans hr) hF4 hnh2 hnw2
    · rw [if_pos (by have := mt (w1_le (w := sp) (s := st.1) (by omega) (by omega)).mpr hc2; omega)] at ih'
      refine mm_B ok_Mo_change 56 6 (67, [some (.ref 52), some (.int (nI c)), some (.int (-1)), some (.int (nI (A.2.1.2.1 c + d))), some (.int (nI sp)), some (.int ((nI (A.2.1.2.1 c + d)) + 1)), some (.int (nI sp))], [], (hp_SH ++ dy, g2, r2)) [] rfl trivial ?_
      refine mm_fg [6] ?_
      rw [nI_1]
      have h8 := ih' g2 r2 (by omega) (hr2.trans hr) hF4 hnh2 hnw2
      rw [show nI (sp + 1, A.2.1.2.1 c + d + 1).1 - 1 = nI sp from nI_pred sp, show nI (sp + 1, A.2.1.2.1 c + d + 1).2 - 1 = nI (A.2.1.2.1 c + d) from nI_pred _] at h8
      exact h8
theorem in_be {x : Int32} {a b : Nat} (ha : a < 2 ^ 31) (hb : b < 2 ^ 31) : f_Mo_in x.toInt64 (nI a).toInt64 (nI b).toInt64 = if x < nI a ∨ nI b < x then 0 else 1 := by
  rw [in_ok]
  simp only [Int32.lt_iff_toInt_lt, Int32.le_iff_toInt_le, nI_toInt ha, nI_toInt hb]
  by_cases h : x.toInt < a ∨ (b : Int) < x.toInt
  · rw [if_pos h, if_neg (by omega)]
  · rw [if_neg h, if_pos (by omega)]
theorem cm_change (dy : List mm_Sh) (g : Nat → Nat → Int32) (r : (Nat → Nat → Int64) × Nat × (Nat → Int32)) {A : sA} (hI : MI (nr_ g) A) (hSI : SI A) (c b : Int32) : mm_Ct 75 M_Mo_change [.ref 52, .int c, .int b] (hp_SH ++ dy, g, r) 0 0 (RM dy g r A (.int (an_change A c b))) := by
  have hI' := hI
  obtain ⟨hL, hK, hPl, hX, hB, hS, hIm⟩ := hI'
  have hR := dX_R hX
  have h4 := hL.2.1
  have h6 := hK.2.1
  have e10 : g 52 10 = nI A.1.1 := by rw [← nr_eq g (k := 52) (j := 10) rfl]; exact hL.1
  have e14 : g 52 14 = nI A.2.1.1 := by rw [← nr_eq g (k := 52) (j := 14) rfl]; exact hK.1
  have hpl : ∀ b, b < 6 → g 62 b = pl_c (A.2.2.1.1 b) := fun b hb => by rw [← nr_eq g (k := 62) (j := b) rfl]; exact (hPl b hb).1
  have hot : ∀ b, b < 6 → g 62 (6 + b) = pl_c (A.2.2.1.2 b) := fun b hb => by rw [← nr_eq g (k := 62) (j := 6 + b) rfl]; exact (hPl b hb).2
  have hpo : ∀ b l, b < 6 → A.2.2.1.1 b = some l → l < A.1.1 := fun b l hb h => hSI.1 b l hb (Or.inl h)
  refine mm_start pl_Mo (Nat.le_of_ble_eq_true rfl) ?_
  cases hx1 : ix_ A.2.1.1 c with
  | none =>
    rw [show an_change A c b = (-2) by unfold an_change; rw [hx1]]
    refine mm_B ok_Mo_change 0 2 (2, [some (.ref 52), some (.int c), some (.int b), none, none, none, none], [.int c, .ref 52], (hp_SH ++ dy, g, r)) [] rfl trivial ?_
    refine mm_cV (as := [.int c]) (st := []) (q := 52) cw_Mo_isChild lk_Mo_121 in_Mo_isChild sl_Mo_isChild rfl rfl (mm_at ok_Mo_change (i := 2) rfl).1 (ct_Mo_isChild dy g r c) (by decide) ⟨by omega, by omega⟩ (Nat.le_of_ble_eq_true rfl) (mm_vs_b (b := 77) rfl (hp_len dy)) (fun v h' hqq => ?_)
    obtain ⟨rfl, hqe⟩ := hqq; rw [hqe]
    rw [mc_x (by omega) e14 c, hx1]
    refine mm_I ok_Mo_change 3 0 5 [some (.ref 52), some (.int c), some (.int b), none, none, none, none] [.int (iz_ none)] (hp_SH ++ dy, g, r) [] rfl trivial rfl rfl (fun _ => ?_) (fun q => False.elim (q rfl))
    refine mm_B ok_Mo_change 21 1 (37, [some (.ref 52), some (.int c), some (.int b), none, none, none, none], [.int (-2)], (hp_SH ++ dy, g, r)) [] rfl trivial ?_
    exact mm_ri rfl (mm_at ok_Mo_change (i := 22) rfl).1 ⟨Nat.le_refl _, Nat.le_refl _⟩ (RM_q rfl hI fr_.rf)
  | some i =>
    obtain ⟨hl1, rfl⟩ := ix_some (by omega) hx1
    obtain ⟨k1, k2, k3, k4, k5⟩ := hK.2.2 i hl1
    have e59 : g 59 (nI i).toNatClampNeg = nI (A.2.1.2.1 i) := by rw [nI_clamp (by omega), ← nr_eq g (k := 59) (j := i) rfl]; exact k1
    have e60 : g 60 (nI i).toNatClampNeg = nI (A.2.1.2.2.1 i) := by rw [nI_clamp (by omega), ← nr_eq g (k := 60) (j := i) rfl]; exact k2
    refine mm_B ok_Mo_change 0 2 (2, [some (.ref 52), some (.int (nI i)), some (.int b), none, none, none, none], [.int (nI i), .ref 52], (hp_SH ++ dy, g, r)) [] rfl trivial ?_
    refine mm_cV (as := [.int (nI i)]) (st := []) (q := 52) cw_Mo_isChild lk_Mo_121 in_Mo_isChild sl_Mo_isChild rfl rfl (mm_at ok_Mo_change (i := 2) rfl).1 (ct_Mo_isChild dy g r (nI i)) (by decide) ⟨by omega, by omega⟩ (Nat.le_of_ble_eq_true rfl) (mm_vs_b (b := 77) rfl (hp_len dy)) (fun v h' hqq => ?_)
    obtain ⟨rfl, hqe⟩ := hqq; rw [hqe]
    rw [mc_x (by omega) e14 (nI i), ix_at hl1 (by omega)]
    refine mm_I ok_Mo_change 3 0 5 [some (.ref 52), some (.int (nI i)), some (.int b), none, none, none, none] [.int (iz_ (some i))] (hp_SH ++ dy, g, r) [] rfl trivial rfl rfl (fun q => False.elim (one0 q)) (fun _ => ?_)
    by_cases hb : b = -1
    · rw [show an_change A (nI i) b = nI (cwn A.1 (aC A) A.2.1 A.2.2.1.1 A.2.2.1.2 i (A.2.1.2.2.1 i + 1 - A.2.1.2.1 i)).2 - 1 by unfold an_change; rw [hx1]; exact if_pos hb]
      subst hb
      refine mm_I ok_Mo_change 4 2 10 [some (.ref 52), some (.int (nI i)), some (.int (-1)), none, none, none, none] [.int (-1), .int (-1)] (hp_SH ++ dy, g, r) [] rfl trivial rfl rfl (fun _ => ?_) (fun q => False.elim (q rfl))
      refine mm_B ok_Mo_change 23 1 (39, [some (.ref 52), some (.int (nI i)), some (.int (-1)), none, none, none, none], [.ref 52], (hp_SH ++ dy, g, r)) [] rfl trivial ?_
      refine mm_cV (as := []) (st := []) (q := 52) cw_Mo_forgets lk_Mo_298 in_Mo_forgets sl_Mo_forgets rfl rfl (mm_at ok_Mo_change (i := 24) rfl).1 (ct_Mo_forgets dy g r) (by decide) ⟨by omega, by omega⟩ (Nat.le_of_ble_eq_true rfl) (mm_vs_b (b := 77) rfl (hp_len dy)) (fun v h' hqq => ?_)
      obtain ⟨rfl, g1, hqe, hF1, h63, h64⟩ := hqq; rw [hqe]
      have hnh : nh_ (aC A) A.2.1.2.2.2 g1 := fun i hi => Or.inl (h63 i hi)
      have hnw : nw_ (aC A) A.2.1.2.2.2 g1 := fun i hi => Or.inl (h64 i hi)
      refine mm_I ok_Mo_change 25 2 44 [some (.ref 52), some (.int (nI i)), some (.int (-1)), none, none, none, none] [.int (-1), .int (-1)] (hp_SH ++ dy, g1, r) [] rfl trivial rfl rfl (fun _ => ?_) (fun q => False.elim (q rfl))
      refine mm_B ok_Mo_change 33 9 (67, [some (.ref 52), some (.int (nI i)), some (.int (-1)), some (.int (-1)), some (.int (-1)), some (.int (g1 59 ((nI i).toNatClampNeg))), none], [], (hp_SH ++ dy, g1, r)) [vp_in (nI i) 6] rfl (show vp_in (nI i) 6 from (nI_vi (by omega) (by decide))) ?_
      rw [show g1 59 (nI i).toNatClampNeg = nI (A.2.1.2.1 i) by rw [hF1 59 _ rfl]; exact e59]
      exact cm_change_go dy g r hI hSI hl1 _ 0 g1 r (Nat.zero_add _) rfl (hF1.mono mz_mu) hnh hnw
    · refine mm_I ok_Mo_change 4 2 10 [some (.ref 52), some (.int (nI i)), some (.int b), none, none, none, none] [.int (-1), .int b] (hp_SH ++ dy, g, r) [] rfl trivial rfl rfl (fun q => False.elim (hb q)) (fun _ => ?_)
      refine mm_B ok_Mo_change 7 12 (29, [some (.ref 52), some (.int (nI i)), some (.int b), none, none, none, none], [.long ((g 60 ((nI i).toNatClampNeg))).toInt64, .long ((g 59 ((nI i).toNatClampNeg))).toInt64, .long (b).toInt64], (hp_SH ++ dy, g, r)) [vp_in (nI i) 6, vp_in (nI i) 6] rfl (show (vp_in (nI i) 6) ∧ (vp_in (nI i) 6) from ⟨(nI_vi (by omega) (by decide)), (nI_vi (by omega) (by decide))⟩) ?_
      rw [e59, e60]
      refine mm_cS (as := [.long (b).toInt64, .long ((nI (A.2.1.2.1 i))).toInt64, .long ((nI (A.2.1.2.2.1 i))).toInt64]) (st := []) cw_Mo_in lk_Mo_100 sx_Mo_in (mm_at ok_Mo_change (i := 19) rfl).1 (ct_Mo_in (hp_SH ++ dy, g, r) b.toInt64 (nI (A.2.1.2.1 i)).toInt64 (nI (A.2.1.2.2.1 i)).toInt64) (by decide) ⟨by omega, by omega⟩ (Nat.le_of_ble_eq_true rfl) (mm_vs_b (b := 77) rfl (hp_len dy)) (fun v h' hqq => ?_)
      obtain ⟨rfl, hqe⟩ := hqq; rw [hqe]
      rw [in_be (by omega) (by omega)]
      by_cases h1 : b < nI (A.2.1.2.1 i) ∨ nI (A.2.1.2.2.1 i) < b
      · rw [show an_change A (nI i) b = -2 by unfold an_change; rw [hx1]; exact (if_neg hb).trans (if_pos h1), if_pos h1]
        refine mm_I ok_Mo_change 20 0 32 [some (.ref 52), some (.int (nI i)), some (.int b), none, none, none, none] [.int 0] (hp_SH ++ dy, g, r) [] rfl trivial rfl rfl (fun q => False.elim (q rfl)) (fun _ => ?_)
        refine mm_B ok_Mo_change 21 1 (37, [some (.ref 52), some (.int (nI i)), some (.int b), none, none, none, none], [.int (-2)], (hp_SH ++ dy, g, r)) [] rfl trivial ?_
        exact mm_ri rfl (mm_at ok_Mo_change (i := 22) rfl).1 ⟨Nat.le_refl _, Nat.le_refl _⟩ (RM_q rfl hI fr_.rf)
      · obtain ⟨j, hj, rfl⟩ := nI_of (x := b) (fun h => h1 (Or.inl (Int32.lt_of_lt_of_le h (nI_pos' (by omega)))))
        have h2' := (nI_leI (by omega) (by omega)).mp (Int32.not_lt.mp (fun q => h1 (Or.inr q)))
        rw [show an_change A (nI i) (nI j) = nI (sp_pts A.1 (aC A) A.2.1 (cg_ A.2.2.1.1 A.2.2.1.2 j) i) by unfold an_change; rw [hx1]; show (if _ then _ else _) = _; rw [if_neg hb, if_neg h1, nI_clamp hj], if_neg h1]
        refine mm_I ok_Mo_change 20 0 32 [some (.ref 52), some (.int (nI i)), some (.int (nI j)), none, none, none, none] [.int 1] (hp_SH ++ dy, g, r) [] rfl trivial rfl rfl (fun _ => ?_) (fun q => False.elim (absurd q (by decide)))
        refine mm_B ok_Mo_change 23 1 (39, [some (.ref 52), some (.int (nI i)), some (.int (nI j)), none, none, none, none], [.ref 52], (hp_SH ++ dy, g, r)) [] rfl trivial ?_
        refine mm_cV (as := []) (st := []) (q := 52) cw_Mo_forgets lk_Mo_298 in_Mo_forgets sl_Mo_forgets rfl rfl (mm_at ok_Mo_change (i := 24) rfl).1 (ct_Mo_forgets dy g r) (by decide) ⟨by omega, by omega⟩ (Nat.le_of_ble_eq_true rfl) (mm_vs_b (b := 77) rfl (hp_len dy)) (fun v h' hqq => ?_)
        obtain ⟨rfl, g1, hqe, hF1, h63, h64⟩ := hqq; rw [hqe]
        have hnh : nh_ (aC A) A.2.1.2.2.2 g1 := fun i hi => Or.inl (h63 i hi)
        have hnw : nw_ (aC A) A.2.1.2.2.2 g1 := fun i hi => Or.inl (h64 i hi)
        refine mm_I ok_Mo_change 25 2 44 [some (.ref 52), some (.int (nI i)), some (.int (nI j)), none, none, none, none] [.int (-1), .int (nI j)] (hp_SH ++ dy, g1, r) [] rfl trivial rfl rfl (fun q => False.elim (hb q)) (fun _ => ?_)
        refine mm_B ok_Mo_change 28 3 (50, [some (.ref 52), some (.int (nI i)), some (.int (nI j)), none, none, none, none], [.int (nI j), .int (nI i), .ref 52], (hp_SH ++ dy, g1, r)) [] rfl trivial ?_
        refine mm_cV (as := [.int (nI i), .int (nI j)]) (st := []) (q := 52) cw_Mo_changeAt lk_Mo_320 in_Mo_changeAt sl_Mo_changeAt rfl rfl (mm_at ok_Mo_change (i := 31) rfl).1 (ct_Mo_changeAt dy g1 (nr_ g) r (hF1.nr (fun k j h => mz_mu k j (mz_nr k j h)) rfl) hR hL hK hl1 (last := j) (by omega) hPl hSI.1 hnh hnw) (by decide) ⟨by omega, by omega⟩ (Nat.le_of_ble_eq_true rfl) (mm_vs_b (b := 77) rfl (hp_len dy)) (fun v h' hqq => ?_)
        obtain ⟨rfl, g2, r2, hqe, hr2, hF2, hnh2, hnw2⟩ := hqq; rw [hqe]
        exact mm_ri rfl (mm_at ok_Mo_change (i := 32) rfl).1 ⟨Nat.le_refl _, Nat.le_refl _⟩ (RM_q hr2 hI (((hF1.mono mz_mu).tr hF2).mono dz_mz))

