/-! ===== the program's calls: change ===== -/
theorem cg_or {pl ot : Nat → Option Nat} {last b l : Nat} (h : cg_ pl ot last b = some l) : pl b = some l ∨ ot b = some l := by
  unfold cg_ at h
  split at h
  · exact Or.inl h
  · exact Or.inr h
def pc_Q (dy : List mm_Sh) (g : Nat → Nat → Int32) (r : (Nat → Nat → Int64) × Nat × (Nat → Int32)) (x : Nat) : Option Value → mm_Hp → Prop := fun v h' => v = some (.int (nI x)) ∧ ∃ g', h' = (hp_SH ++ dy, g', r) ∧ fr_ d43 g g'
theorem pc_go (dy : List mm_Sh) (g P : Nat → Nat → Int32) (r : (Nat → Nat → Int64) × Nat × (Nat → Int32)) (hP : nr_ g = P) {C : Nat → List Int32} (hR : rt_R dy P C) {T : sp_T} (hL : rl_L T P) {K : sp_K} {c last : Nat} (hK : rl_C K P) (hc : c < K.1) (hlast : last ≤ 5) {pl ot : Nat → Option Nat} (hpl : ∀ b, b < 6 → P 9 b = pl_c (pl b) ∧ P 10 b = pl_c (ot b)) (hpo : ∀ b l, b < 6 → (pl b = some l ∨ ot b = some l) → l < T.1) : ∀ (m i : Nat) (g1 : Nat → Nat → Int32), i + m = 6 → fr_ d43 g g1 → (∀ j, j < i → g1 43 j = pl_c (cg_ pl ot last j)) → mm_W 9 M_Sc_pointsChanging 0 0 (pc_Q dy g r (sp_pts T C K (cg_ pl ot last) c)) 0 0 (2, [some (.ref 0), some (.int (nI c)), some (.int (nI last)), some (.int (nI i))], [], (hp_SH ++ dy, g1, r)) := by
  have h6 := hK.2.1
  intro m
  induction m with
  | zero =>
    intro i g1 hi hF h
    refine mm_I ok_Sc_pointsChanging 2 2 5 [some (.ref 0), some (.int (nI c)), some (.int (nI last)), some (.int (nI i))] [.int 6, .int (nI i)] (hp_SH ++ dy, g1, r) [] rfl trivial rfl rfl (fun _ => ?_) (fun q => False.elim (q (nI_le (a := 6) (b := i) (by omega) (by omega))))
    refine mm_B ok_Sc_pointsChanging 27 5 (61, [some (.ref 0), some (.int (nI c)), some (.int (nI last)), some (.int (nI i))], [.ref 43, .int (nI c), .ref 1], (hp_SH ++ dy, g1, r)) [] rfl trivial ?_
    refine mm_cV (as := [.int (nI c), .ref 43]) (st := []) (q := 1) cw_Sp_pointsOf lk_Sc_192 in_Sp_pointsOf sl_Sp_pointsOf rfl rfl (mm_at ok_Sc_pointsChanging (i := 32) rfl).1 (ct_Sp_pointsOf dy g1 P r (hF.nr d43_nr hP) hR hL hK hc (pa := 43) ((hp_at dy (by decide)).trans rfl) (fun _ => rfl) (fun b hb => h b (by omega)) (fun b l hb hbl => hpo b l hb (cg_or hbl))) (by decide) ⟨by omega, by omega⟩ (Nat.le_of_ble_eq_true rfl) (mm_vs_b (b := 77) rfl (hp_len dy)) (fun v h' hqq => ?_)
    obtain ⟨rfl, g2, hqe, hF2⟩ := hqq; rw [hqe]
    exact mm_ri rfl (mm_at ok_Sc_pointsChanging (i := 33) rfl).1 ⟨Nat.le_refl _, Nat.le_refl _⟩ (⟨rfl, g2, rfl, hF.tr (hF2.mono d43_f1)⟩)
  | succ m ih =>
    intro i g1 hi hF h
    have hP1 := hF.nr d43_nr hP
    have e9 : g1 9 i = pl_c (pl i) := by rw [nr_at hP1 9 i rfl]; exact (hpl i (by omega)).1
    have e10 : g1 10 i = pl_c (ot i) := by rw [nr_at hP1 10 i rfl]; exact (hpl i (by omega)).2
    refine mm_I ok_Sc_pointsChanging 2 2 5 [some (.ref 0), some (.int (nI c)), some (.int (nI last)), some (.int (nI i))] [.int 6, .int (nI i)] (hp_SH ++ dy, g1, r) [] rfl trivial rfl rfl (fun q => False.elim (absurd q (nI_ge (b := 6) (show i < 6 by omega) (by decide)))) (fun _ => ?_)
    by_cases hb : i ≤ last
    · refine mm_I ok_Sc_pointsChanging 5 5 15 [some (.ref 0), some (.int (nI c)), some (.int (nI last)), some (.int (nI i))] [.int (nI last), .int (nI i), .int (nI i), .ref 43] (hp_SH ++ dy, g1, r) [] rfl trivial rfl rfl (fun q => False.elim (absurd q (nI_nlt hb (by omega)))) (fun _ => ?_)
      refine mm_B ok_Sc_pointsChanging 11 7 (45, [some (.ref 0), some (.int (nI c)), some (.int (nI last)), some (.int (nI i))], [.int (g1 9 ((nI i).toNatClampNeg)), .int (nI i), .ref 43], (hp_SH ++ dy, g1, r)) [vp_in (nI i) 6] rfl (show vp_in (nI i) 6 from (nI_vi (by omega) (by decide))) ?_
      refine mm_B ok_Sc_pointsChanging 24 3 (2, [some (.ref 0), some (.int (nI c)), some (.int (nI last)), some (.int ((nI i) + 1))], [], (hp_SH ++ dy, mm_up g1 43 ((nI i).toNatClampNeg) (g1 9 ((nI i).toNatClampNeg)), r)) [vp_in (nI i) 6] rfl (show vp_in (nI i) 6 from (nI_vi (by omega) (by decide))) ?_
      rw [nI_1, nI_clamp (show i < 2 ^ 31 by omega), e9]
      exact ih (i + 1) _ (by omega) (hF.up _ rfl) (fun j hj => by
        unfold cg_
        by_cases e : j = i
        · rw [e, mm_up_at, if_pos hb]
        · rw [mm_up_no e]; exact h j (by omega))
    · refine mm_I ok_Sc_pointsChanging 5 5 15 [some (.ref 0), some (.int (nI c)), some (.int (nI last)), some (.int (nI i))] [.int (nI last), .int (nI i), .int (nI i), .ref 43] (hp_SH ++ dy, g1, r) [] rfl trivial rfl rfl (fun _ => ?_) (fun q => False.elim (q (nI_lt (show last < i by omega) (by omega))))
      refine mm_B ok_Sc_pointsChanging 18 9 (2, [some (.ref 0), some (.int (nI c)), some (.int (nI last)), some (.int ((nI i) + 1))], [], (hp_SH ++ dy, mm_up g1 43 ((nI i).toNatClampNeg) (g1 10 ((nI i).toNatClampNeg)), r)) [vp_in (nI i) 6, vp_in (nI i) 6] rfl (show (vp_in (nI i) 6) ∧ (vp_in (nI i) 6) from ⟨(nI_vi (by omega) (by decide)), (nI_vi (by omega) (by decide))⟩) ?_
      rw [nI_1, nI_clamp (show i < 2 ^ 31 by omega), e10]
      exact ih (i + 1) _ (by omega) (hF.up _ rfl) (fun j hj => by
        unfold cg_
        by_cases e : j = i
        · rw [e, mm_up_at, if_neg hb]
        · rw [mm_up_no e]; exact h j (by omega))
theorem ct_Sc_pointsChanging (dy : List mm_Sh) (g P : Nat → Nat → Int32) (r : (Nat → Nat → Int64) × Nat × (Nat → Int32)) (hP : nr_ g = P) {C : Nat → List Int32} (hR : rt_R dy P C) {T : sp_T} (hL : rl_L T P) {K : sp_K} {c last : Nat} (hK : rl_C K P) (hc : c < K.1) (hlast : last ≤ 5) {pl ot : Nat → Option Nat} (hpl : ∀ b, b < 6 → P 9 b = pl_c (pl b) ∧ P 10 b = pl_c (ot b)) (hpo : ∀ b l, b < 6 → (pl b = some l ∨ ot b = some l) → l < T.1) : mm_Ct 9 M_Sc_pointsChanging [.ref 0, .int (nI c), .int (nI last)] (hp_SH ++ dy, g, r) 0 0 (pc_Q dy g r (sp_pts T C K (cg_ pl ot last) c)) := by
  refine mm_start pl_Sc (Nat.le_of_ble_eq_true rfl) ?_
  refine mm_B ok_Sc_pointsChanging 0 2 (2, [some (.ref 0), some (.int (nI c)), some (.int (nI last)), some (.int 0)], [], (hp_SH ++ dy, g, r)) [] rfl trivial ?_
  exact pc_go dy g P r hP hR hL hK hc hlast hpl hpo 6 0 g (by omega) fr_.rf (fun j hj => absurd hj (Nat.not_lt_zero j))
theorem cc_change_go (dy : List mm_Sh) (g : Nat → Nat → Int32) (r : (Nat → Nat → Int64) × Nat × (Nat → Int32)) {A : sA} (hI : CI dy (nr_ g) A) (hSI : SI A) {c : Nat} (hc : c < A.2.1.1) : ∀ (m d : Nat) (g1 : Nat → Nat → Int32), d + m = A.2.1.2.2.1 c + 1 - A.2.1.2.1 c → fr_ d43 g g1 → mm_W 12 M_Sc_change 0 0 (RC dy g r A (.int (nI (cwn A.1 (aC A) A.2.1 A.2.2.1.1 A.2.2.1.2 c (A.2.1.2.2.1 c + 1 - A.2.1.2.1 c)).2 - 1))) 0 0 (75, [some (.ref 0), some (.int (nI c)), some (.int (-1)), some (.int (nI (A.2.1.2.1 c))), some (.int (nI (A.2.1.2.2.1 c))), some (.int (nI (cwn A.1 (aC A) A.2.1 A.2.2.1.1 A.2.2.1.2 c d).1 - 1)), some (.int (nI (cwn A.1 (aC A) A.2.1 A.2.2.1.1 A.2.2.1.2 c d).2 - 1)), some (.int (nI (A.2.1.2.1 c + d))), none], [], (hp_SH ++ dy, g1, r)) := by
  have hI' := hI
  obtain ⟨hL, hK, hPl, hX, hB, hS, hIm, hFd, hW⟩ := hI'
  have hR := cX_R hX
  have h4 := hL.2.1
  have h6 := hK.2.1
  have h9 := h9_of hL
  obtain ⟨k1, k2, k3, k4, k5⟩ := hK.2.2 c hc
  have hb := cw_in (C := aC A) (K := A.2.1) (pl := A.2.2.1.1) (ot := A.2.2.1.2) (c := c) h4 h9
  intro m
  induction m with
  | zero =>
    intro d g1 hd hF
    rw [← show d = A.2.1.2.2.1 c + 1 - A.2.1.2.1 c by omega]
    generalize hst : cwn A.1 (aC A) A.2.1 A.2.2.1.1 A.2.2.1.2 c d = st
    refine mm_I ok_Sc_change 42 2 79 [some (.ref 0), some (.int (nI c)), some (.int (-1)), some (.int (nI (A.2.1.2.1 c))), some (.int (nI (A.2.1.2.2.1 c))), some (.int (nI st.1 - 1)), some (.int (nI st.2 - 1)), some (.int (nI (A.2.1.2.1 c + d))), none] [.int (nI (A.2.1.2.2.1 c)), .int (nI (A.2.1.2.1 c + d))] (hp_SH ++ dy, g1, r) [] rfl trivial rfl rfl (fun _ => ?_) (fun q => False.elim (q (nI_lt (by omega) (by omega))))
    refine mm_B ok_Sc_change 59 1 (114, [some (.ref 0), some (.int (nI c)), some (.int (-1)), some (.int (nI (A.2.1.2.1 c))), some (.int (nI (A.2.1.2.2.1 c))), some (.int (nI st.1 - 1)), some (.int (nI st.2 - 1)), some (.int (nI (A.2.1.2.1 c + d))), none], [.int (nI st.2 - 1)], (hp_SH ++ dy, g1, r)) [] rfl trivial ?_
    exact mm_ri rfl (mm_at ok_Sc_change (i := 60) rfl).1 ⟨Nat.le_refl _, Nat.le_refl _⟩ (RC_q rfl hI (hF.mono cz_43))
  | succ m ih =>
    intro d g1 hd hF
    have hb6 := hb d
    have hn : cwn A.1 (aC A) A.2.1 A.2.2.1.1 A.2.2.1.2 c (d + 1) = cw_ A.1 (aC A) A.2.1 A.2.2.1.1 A.2.2.1.2 c d (cwn A.1 (aC A) A.2.1 A.2.2.1.1 A.2.2.1.2 c d) := rfl
    have ih' := ih (d + 1)
    rw [hn] at ih'
    generalize hst : cwn A.1 (aC A) A.2.1 A.2.2.1.1 A.2.2.1.2 c d = st at hb6 ih' ⊢
    refine mm_I ok_Sc_change 42 2 79 [some (.ref 0), some (.int (nI c)), some (.int (-1)), some (.int (nI (A.2.1.2.1 c))), some (.int (nI (A.2.1.2.2.1 c))), some (.int (nI st.1 - 1)), some (.int (nI st.2 - 1)), some (.int (nI (A.2.1.2.1 c + d))), none] [.int (nI (A.2.1.2.2.1 c)), .int (nI (A.2.1.2.1 c + d))] (hp_SH ++ dy, g1, r) [] rfl trivial rfl rfl (fun q => False.elim (absurd q (nI_nlt (by omega) (by omega)))) (fun _ => ?_)
    refine mm_B ok_Sc_change 45 3 (86, [some (.ref 0), some (.int (nI c)), some (.int (-1)), some (.int (nI (A.2.1.2.1 c))), some (.int (nI (A.2.1.2.2.1 c))), some (.int (nI st.1 - 1)), some (.int (nI st.2 - 1)), some (.int (nI (A.2.1.2.1 c + d))), none], [.int (nI (A.2.1.2.1 c + d)), .int (nI c), .ref 0], (hp_SH ++ dy, g1, r)) [] rfl trivial ?_
    refine mm_cV (as := [.int (nI c), .int (nI (A.2.1.2.1 c + d))]) (st := []) (q := 0) cw_Sc_pointsChanging lk_Sc_218 in_Sc_pointsChanging sl_Sc_pointsChanging rfl rfl (mm_at ok_Sc_change (i := 48) rfl).1 (ct_Sc_pointsChanging dy g1 (nr_ g) r (hF.nr d43_nr rfl) hR hL hK hc (last := A.2.1.2.1 c + d) (by omega) hPl hSI.1) (by decide) ⟨by omega, by omega⟩ (Nat.le_of_ble_eq_true rfl) (mm_vs_b (b := 77) rfl (hp_len dy)) (fun v h' hqq => ?_)
    obtain ⟨rfl, g2, hqe, hF2⟩ := hqq; rw [hqe]
    have hF4 := hF.tr hF2
    have ha := pt_le (C := aC A) (K := A.2.1) (pl := cg_ A.2.2.1.1 A.2.2.1.2 (A.2.1.2.1 c + d)) (c := c) h4 h9
    unfold cw_ at ih'
    generalize hsp : sp_pts A.1 (aC A) A.2.1 (cg_ A.2.2.1.1 A.2.2.1.2 (A.2.1.2.1 c + d)) c = sp at ha ih' ⊢
    refine mm_I ok_Sc_change 49 3 95 [some (.ref 0), some (.int (nI c)), some (.int (-1)), some (.int (nI (A.2.1.2.1 c))), some (.int (nI (A.2.1.2.2.1 c))), some (.int (nI st.1 - 1)), some (.int (nI st.2 - 1)), some (.int (nI (A.2.1.2.1 c + d))), some (.int (nI sp))] [.int (nI st.1 - 1), .int (nI sp)] (hp_SH ++ dy, g2, r) [] rfl trivial rfl rfl (fun hc2 => ?_) (fun hc2 => ?_)
    · rw [if_neg (fun q => absurd ((w1_le (by omega) (by omega)).mp hc2) (by omega))] at ih'
      refine mm_B ok_Sc_change 57 2 (75, [some (.ref 0), some (.int (nI c)), some (.int (-1)), some (.int (nI (A.2.1.2.1 c))), some (.int (nI (A.2.1.2.2.1 c))), some (.int (nI st.1 - 1)), some (.int (nI st.2 - 1)), some (.int ((nI (A.2.1.2.1 c + d)) + 1)), some (.int (nI sp))], [], (hp_SH ++ dy, g2, r)) [] rfl trivial ?_
      refine mm_fg [8] ?_
      rw [nI_1]
      exact ih' g2 (by omega) hF4
    · rw [if_pos (by have := mt (w1_le (w := sp) (s := st.1) (by omega) (by omega)).mpr hc2; omega)] at ih'
      refine mm_B ok_Sc_change 53 6 (75, [some (.ref 0), some (.int (nI c)), some (.int (-1)), some (.int (nI (A.2.1.2.1 c))), some (.int (nI (A.2.1.2.2.1 c))), some (.int (nI sp)), some (.int (nI (A.2.1.2.1 c + d))), some (.int ((nI (A.2.1.2.1 c + d)) + 1)), some (.int (nI sp))], [], (hp_SH ++ dy, g2, r)) [] rfl trivial ?_
      refine mm_fg [8] ?_
      rw [nI_1]
      have h8 := ih' g2 (by omega) hF4
      rw [show nI (sp + 1, A.2.1.2.1 c + d + 1).1 - 1 = nI sp from nI_pred sp, show nI (sp + 1, A.2.1.2.1 c + d + 1).2 - 1 = nI (A.2.1.2.1 c + d) from nI_pred _] at h8
      exact h8
theorem cc_change (dy : List mm_Sh) (g : Nat → Nat → Int32) (r : (Nat → Nat → Int64) × Nat × (Nat → Int32)) {A : sA} (hI : CI dy (nr_ g) A) (hSI : SI A) (c b : Int32) : mm_Ct 12 M_Sc_change [.ref 0, .int c, .int b] (hp_SH ++ dy, g, r) 0 0 (RC dy g r A (.int (an_change A c b))) := by
  have hI' := hI
  obtain ⟨hL, hK, hPl, hX, hB, hS, hIm, hFd, hW⟩ := hI'
  have hR := cX_R hX
  have h4 := hL.2.1
  have h6 := hK.2.1
  have e20 : g 2 0 = nI A.1.1 := by rw [← nr_eq g (k := 2) (j := 0) rfl]; exact hL.1
  have e21 : g 2 1 = nI A.2.1.1 := by rw [← nr_eq g (k := 2) (j := 1) rfl]; exact hK.1
  have hpa : (hp_SH ++ dy)[9]? = some (.inl (0, 6)) := (hp_at dy (by decide)).trans rfl
  have hpl : ∀ b, b < 6 → g 9 b = pl_c (A.2.2.1.1 b) := fun b hb => by rw [← nr_eq g (k := 9) (j := b) rfl]; exact (hPl b hb).1
  have hot : ∀ b, b < 6 → g 10 b = pl_c (A.2.2.1.2 b) := fun b hb => by rw [← nr_eq g (k := 10) (j := b) rfl]; exact (hPl b hb).2
  have hpo : ∀ b l, b < 6 → A.2.2.1.1 b = some l → l < A.1.1 := fun b l hb h => hSI.1 b l hb (Or.inl h)
  refine mm_start pl_Sc (Nat.le_of_ble_eq_true rfl) ?_
  cases hx1 : ix_ A.2.1.1 c with
  | none =>
    rw [show an_change A c b = (-2) by unfold an_change; rw [hx1]]
    refine mm_B ok_Sc_change 0 2 (2, [some (.ref 0), some (.int c), some (.int b), none, none, none, none, none, none], [.int c, .ref 0], (hp_SH ++ dy, g, r)) [] rfl trivial ?_
    refine mm_cV (as := [.int c]) (st := []) (q := 0) cw_Sc_isChild lk_Sc_105 in_Sc_isChild sl_Sc_isChild rfl rfl (mm_at ok_Sc_change (i := 2) rfl).1 (ct_Sc_isChild dy g r c) (by decide) ⟨by omega, by omega⟩ (Nat.le_of_ble_eq_true rfl) (mm_vs_b (b := 77) rfl (hp_len dy)) (fun v h' hqq => ?_)
    obtain ⟨rfl, hqe⟩ := hqq; rw [hqe]
    rw [cx_ e21 c, hx1]
    refine mm_I ok_Sc_change 3 0 5 [some (.ref 0), some (.int c), some (.int b), none, none, none, none, none, none] [.int (iz_ none)] (hp_SH ++ dy, g, r) [] rfl trivial rfl rfl (fun q => False.elim (q rfl)) (fun _ => ?_)
    refine mm_B ok_Sc_change 4 1 (10, [some (.ref 0), some (.int c), some (.int b), none, none, none, none, none, none], [.int (-2)], (hp_SH ++ dy, g, r)) [] rfl trivial ?_
    exact mm_ri rfl (mm_at ok_Sc_change (i := 5) rfl).1 ⟨Nat.le_refl _, Nat.le_refl _⟩ (RC_q rfl hI fr_.rf)
  | some i =>
    obtain ⟨hl1, rfl⟩ := ix_some (by omega) hx1
    obtain ⟨k1, k2, k3, k4, k5⟩ := hK.2.2 i hl1
    have e6 : g 6 (nI i).toNatClampNeg = nI (A.2.1.2.1 i) := by rw [nI_clamp (by omega), ← nr_eq g (k := 6) (j := i) rfl]; exact k1
    have e7 : g 7 (nI i).toNatClampNeg = nI (A.2.1.2.2.1 i) := by rw [nI_clamp (by omega), ← nr_eq g (k := 7) (j := i) rfl]; exact k2
    refine mm_B ok_Sc_change 0 2 (2, [some (.ref 0), some (.int (nI i)), some (.int b), none, none, none, none, none, none], [.int (nI i), .ref 0], (hp_SH ++ dy, g, r)) [] rfl trivial ?_
    refine mm_cV (as := [.int (nI i)]) (st := []) (q := 0) cw_Sc_isChild lk_Sc_105 in_Sc_isChild sl_Sc_isChild rfl rfl (mm_at ok_Sc_change (i := 2) rfl).1 (ct_Sc_isChild dy g r (nI i)) (by decide) ⟨by omega, by omega⟩ (Nat.le_of_ble_eq_true rfl) (mm_vs_b (b := 77) rfl (hp_len dy)) (fun v h' hqq => ?_)
    obtain ⟨rfl, hqe⟩ := hqq; rw [hqe]
    rw [cx_ e21 (nI i), ix_at hl1 (by omega)]
    refine mm_I ok_Sc_change 3 0 5 [some (.ref 0), some (.int (nI i)), some (.int b), none, none, none, none, none, none] [.int (iz_ (some i))] (hp_SH ++ dy, g, r) [] rfl trivial rfl rfl (fun _ => ?_) (fun q => False.elim (one0 q))
    refine mm_B ok_Sc_change 6 16 (40, [some (.ref 0), some (.int (nI i)), some (.int b), some (.int (g 6 ((nI i).toNatClampNeg))), some (.int (g 7 ((nI i).toNatClampNeg))), none, none, none, none], [.int (-1), .int b], (hp_SH ++ dy, g, r)) [vp_in (nI i) 6, vp_in (nI i) 6] rfl (show (vp_in (nI i) 6) ∧ (vp_in (nI i) 6) from ⟨(nI_vi (by omega) (by decide)), (nI_vi (by omega) (by decide))⟩) ?_
    rw [e6, e7]
    by_cases hb : b = -1
    · rw [show an_change A (nI i) b = nI (cwn A.1 (aC A) A.2.1 A.2.2.1.1 A.2.2.1.2 i (A.2.1.2.2.1 i + 1 - A.2.1.2.1 i)).2 - 1 by unfold an_change; rw [hx1]; exact if_pos hb]
      subst hb
      refine mm_I ok_Sc_change 22 0 40 [some (.ref 0), some (.int (nI i)), some (.int (-1)), some (.int (nI (A.2.1.2.1 i))), some (.int (nI (A.2.1.2.2.1 i))), none, none, none, none] [.int (-1), .int (-1)] (hp_SH ++ dy, g, r) [] rfl trivial rfl rfl (fun _ => ?_) (fun q => False.elim (q rfl))
      refine mm_B ok_Sc_change 36 6 (75, [some (.ref 0), some (.int (nI i)), some (.int (-1)), some (.int (nI (A.2.1.2.1 i))), some (.int (nI (A.2.1.2.2.1 i))), some (.int (-1)), some (.int (-1)), some (.int (nI (A.2.1.2.1 i))), none], [], (hp_SH ++ dy, g, r)) [] rfl trivial ?_
      exact cc_change_go dy g r hI hSI hl1 _ 0 g (Nat.zero_add _) fr_.rf
    · refine mm_I ok_Sc_change 22 0 40 [some (.ref 0), some (.int (nI i)), some (.int b), some (.int (nI (A.2.1.2.1 i))), some (.int (nI (A.2.1.2.2.1 i))), none, none, none, none] [.int (-1), .int b] (hp_SH ++ dy, g, r) [] rfl trivial rfl rfl (fun q => False.elim (hb q)) (fun _ => ?_)
      refine mm_I ok_Sc_change 23 2 45 [some (.ref 0), some (.int (nI i)), some (.int b), some (.int (nI (A.2.1.2.1 i))), some (.int (nI (A.2.1.2.2.1 i))), none, none, none, none] [.int (nI (A.2.1.2.1 i)), .int b] (hp_SH ++ dy, g, r) [] rfl trivial rfl rfl (fun h1 => ?_) (fun h1 => ?_)
      · rw [show an_change A (nI i) b = -2 by unfold an_change; rw [hx1]; exact (if_neg hb).trans (if_pos (Or.inl h1))]
        refine mm_B ok_Sc_change 29 2 (65, [some (.ref 0), some (.int (nI i)), some (.int b), some (.int (nI (A.2.1.2.1 i))), some (.int (nI (A.2.1.2.2.1 i))), none, none, none, none], [.int (-2)], (hp_SH ++ dy, g, r)) [] rfl trivial ?_
        exact mm_ri rfl (mm_at ok_Sc_change (i := 35) rfl).1 ⟨Nat.le_refl _, Nat.le_refl _⟩ (RC_q rfl hI fr_.rf)
      · refine mm_I ok_Sc_change 26 2 51 [some (.ref 0), some (.int (nI i)), some (.int b), some (.int (nI (A.2.1.2.1 i))), some (.int (nI (A.2.1.2.2.1 i))), none, none, none, none] [.int (nI (A.2.1.2.2.1 i)), .int b] (hp_SH ++ dy, g, r) [] rfl trivial rfl rfl (fun h2 => ?_) (fun h2 => ?_)
        · obtain ⟨j, hj, rfl⟩ := nI_of (x := b) (fun h => h1 (Int32.lt_of_lt_of_le h (nI_pos' (by omega))))
          have h1' := (nI_leI (by omega) (by omega)).mp (Int32.not_lt.mp h1)
          have h2' := (nI_leI (by omega) (by omega)).mp h2
          rw [show an_change A (nI i) (nI j) = nI (sp_pts A.1 (aC A) A.2.1 (cg_ A.2.2.1.1 A.2.2.1.2 j) i) by unfold an_change; rw [hx1]; show (if _ then _ else _) = _; rw [if_neg hb, if_neg (fun q => q.elim h1 (fun q => absurd h2 (Int32.not_le.mpr q))), nI_clamp hj]]
          refine mm_B ok_Sc_change 31 3 (62, [some (.ref 0), some (.int (nI i)), some (.int (nI j)), some (.int (nI (A.2.1.2.1 i))), some (.int (nI (A.2.1.2.2.1 i))), none, none, none, none], [.int (nI j), .int (nI i), .ref 0], (hp_SH ++ dy, g, r)) [] rfl trivial ?_
          refine mm_cV (as := [.int (nI i), .int (nI j)]) (st := []) (q := 0) cw_Sc_pointsChanging lk_Sc_218 in_Sc_pointsChanging sl_Sc_pointsChanging rfl rfl (mm_at ok_Sc_change (i := 34) rfl).1 (ct_Sc_pointsChanging dy g (nr_ g) r rfl hR hL hK hl1 (last := j) (by omega) hPl hSI.1) (by decide) ⟨by omega, by omega⟩ (Nat.le_of_ble_eq_true rfl) (mm_vs_b (b := 77) rfl (hp_len dy)) (fun v h' hqq => ?_)
          obtain ⟨rfl, g1, hqe, hF1⟩ := hqq; rw [hqe]
          exact mm_ri rfl (mm_at ok_Sc_change (i := 35) rfl).1 ⟨Nat.le_refl _, Nat.le_refl _⟩ (RC_q rfl hI (hF1.mono cz_43))
        · rw [show an_change A (nI i) b = -2 by unfold an_change; rw [hx1]; exact (if_neg hb).trans (if_pos (Or.inr (Int32.not_le.mp h2)))]
          refine mm_B ok_Sc_change 29 2 (65, [some (.ref 0), some (.int (nI i)), some (.int b), some (.int (nI (A.2.1.2.1 i))), some (.int (nI (A.2.1.2.2.1 i))), none, none, none, none], [.int (-2)], (hp_SH ++ dy, g, r)) [] rfl trivial ?_
          exact mm_ri rfl (mm_at ok_Sc_change (i := 35) rfl).1 ⟨Nat.le_refl _, Nat.le_refl _⟩ (RC_q rfl hI fr_.rf)

