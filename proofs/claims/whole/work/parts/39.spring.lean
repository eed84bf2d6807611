/-! ===== Spring: what a lesson is worth, what a run costs, listening ===== -/
def cl_ (w : Int32) : Int32 := if -99 < (if w < 99 then w else 99) then (if w < 99 then w else 99) else -99
def sp_gn (v : Nat) (w : Int32) : Nat := ((v : Int) + max (-99) (min 99 w.toInt)).toNat
theorem cl_toInt (w : Int32) : (cl_ w).toInt = max (-99) (min 99 w.toInt) := by
  unfold cl_
  have h1 : (-99 : Int32).toInt = -99 := rfl
  have h2 : (99 : Int32).toInt = 99 := rfl
  simp only [Int32.lt_iff_toInt_lt, h1, h2]
  repeat' split
  all_goals simp only [h1, h2] at *
  all_goals omega
theorem nI_toI {v : Nat} (h : v < 2 ^ 31) : (nI v).toInt = (v : Int) := nI_toInt h
theorem gn_sum {v : Nat} {c : Int32} (hv : v ≤ 100) (h1 : -99 ≤ c.toInt) (h2 : c.toInt ≤ 99) : (nI v + c).toInt = (v : Int) + c.toInt := by
  rw [Int32.toInt_add, nI_toI (by omega), Int.bmod_eq_of_le] <;> omega
theorem gn_eq {v : Nat} (hv : v ≤ 100) (w : Int32) : (if 0 < nI v + cl_ w then nI v + cl_ w else 0) = nI (sp_gn v w) := by
  have hc := cl_toInt w
  have h1 : -99 ≤ (cl_ w).toInt := by omega
  have h2 : (cl_ w).toInt ≤ 99 := by omega
  have hs := gn_sum hv h1 h2
  have h0 : (0 : Int32).toInt = 0 := rfl
  rw [← Int32.toInt_inj, nI_toI (by unfold sp_gn; omega)]
  simp only [Int32.lt_iff_toInt_lt, hs, h0]
  unfold sp_gn
  split
  · rw [hs]; omega
  · rw [h0]; omega
theorem sp_vl_le : ∀ k n, n ≤ 9 → sp_vl k n ≤ 100 := by
  intro k n hn
  unfold sp_vl
  split <;> omega
theorem ct_Sp_gain (dy : List mm_Sh) (g P : Nat → Nat → Int32) (r : (Nat → Nat → Int64) × Nat × (Nat → Int32)) (hP : nr_ g = P) {C : Nat → List Int32} (hR : rt_R dy P C) {T : sp_T} {ag : Nat → Nat} {c l k o : Nat} (hL : rl_L T P) (hc : c < 6) (hag : P 8 c = nI (ag c)) (hl : l < T.1) : mm_Ct 4 M_Sp_gain [.ref 1, .int (nI c), .int (nI l), .int (nI k), .int (nI o)] (hp_SH ++ dy, g, r) 0 0 (fun v h' => v = some (.int (nI (sp_gn (sp_value T l) (sp_W C ag c l k o)))) ∧ ∃ g', h' = (hp_SH ++ dy, g', r) ∧ fr_ f1_ g g') := by
  have h4 := hL.2.1
  obtain ⟨-, h6, h4l, h9', -⟩ := hL.2.2.1 l hl
  have h9 : T.2.2.1 l < 10 := by omega
  obtain ⟨ru, tc, h22, hru, h11, htc, a0, a1, a2, hsh, -, ⟨s0, l0, n0, c0⟩, -⟩ := hR
  refine mm_start pl_Sp (Nat.le_of_ble_eq_true rfl) ?_
  refine mm_B ok_Sp_gain 0 6 (7, [some (.ref 1), some (.int (nI c)), some (.int (nI l)), some (.int (nI k)), some (.int (nI o)), none], [.int (nI o), .int (nI k), .int (nI l), .int 5, .int (nI c), .ref 1], (hp_SH ++ dy, g, r)) [] rfl trivial ?_
  refine mm_cV (as := [.int (nI c), .int 5, .int (nI l), .int (nI k), .int (nI o)]) (st := []) (q := 1) cw_Sp_stage lk_Sp_84 in_Sp_stage sl_Sp_stage rfl rfl (mm_at ok_Sp_gain (i := 6) rfl).1 (ct_Sp_stage dy g r (nI c) 5 (nI l) (nI k) (nI o) (nI_vi hc (by decide))) (by decide) ⟨by omega, by omega⟩ (Nat.le_of_ble_eq_true rfl) (mm_vs_b (b := 77) rfl (hp_len dy)) (fun v h' hqq => ?_)
  obtain ⟨rfl, g1, hqe, hF1, q0, q1, q2, q3, q4, q5⟩ := hqq; rw [hqe]
  rw [nI_clamp (by omega), nr_at hP 8 c rfl, hag] at q4
  have hP1 := hF1.nr f1_nr hP
  refine mm_B ok_Sp_gain 7 4 (16, [some (.ref 1), some (.int (nI c)), some (.int (nI l)), some (.int (nI k)), some (.int (nI o)), none], [.ref 1, .ref 1, .int 99, .int (-99)], (hp_SH ++ dy, g1, r)) [] rfl trivial ?_
  refine mm_cV (as := []) (st := [.ref 1, .int 99, .int (-99)]) (q := 1) cw_Sp_ruleText lk_Sp_88 in_Sp_ruleText sl_Sp_ruleText rfl rfl (mm_at ok_Sp_gain (i := 11) rfl).1 (ct_Sp_ruleText dy g1 P r hP1 h22 hru h11 htc) (by decide) ⟨by omega, by omega⟩ (Nat.le_of_ble_eq_true rfl) (mm_vs_b (b := 77) rfl (hp_len dy)) (fun v h' hqq => ?_)
  obtain ⟨rfl, hqe⟩ := hqq; rw [hqe]
  refine mm_get (ci := 10) (y := 1) (mm_fm_lk (by decide +kernel)) hsh rfl (mm_at ok_Sp_gain (i := 12) rfl).1 ?_
  refine mm_cV (as := [.ref a1]) (st := [.int 99, .int (-99)]) (q := 1) cw_Sp_worked lk_Sp_95 in_Sp_worked sl_Sp_worked rfl rfl (mm_at ok_Sp_gain (i := 13) rfl).1 (ct_Sp_worked g1 P r dy s0 l0 n0 c0 hP1 rfl rfl) (by decide) ⟨by omega, by omega⟩ (Nat.le_of_ble_eq_true rfl) (mm_vs_b (b := 77) rfl (hp_len dy)) (fun v h' hqq => ?_)
  obtain ⟨rfl, g2, hqe, hF2⟩ := hqq; rw [hqe, ev_eq (C 1) q0 q1 q2 q3 q4 q5]
  have hP2 := hF2.nr f1_nr hP1
  have e4 : g2 4 (nI l).toNatClampNeg = nI (T.2.2.1 l) := by rw [nI_clamp (by omega), nr_at hP2 4 l rfl]; exact h4l
  refine mm_min lk_Sp_102 (mm_at ok_Sp_gain (i := 14) rfl).1 (by decide) ⟨Nat.le_refl _, Nat.le_refl _⟩ (Nat.le_of_ble_eq_true rfl) ?_
  refine mm_max lk_Sp_107 (mm_at ok_Sp_gain (i := 15) rfl).1 (by decide) ⟨Nat.le_refl _, Nat.le_refl _⟩ (Nat.le_of_ble_eq_true rfl) ?_
  refine mm_B ok_Sp_gain 16 4 (36, [some (.ref 1), some (.int (nI c)), some (.int (nI l)), some (.int (nI k)), some (.int (nI o)), some (.int (cl_ (sp_W C ag c l k o)))], [.int (nI l), .ref 1, .int 0], (hp_SH ++ dy, g2, r)) [] rfl trivial ?_
  refine mm_cV (as := [.int (nI l)]) (st := [.int 0]) (q := 1) cw_Sp_kindOf lk_Sp_73 in_Sp_kindOf sl_Sp_kindOf rfl rfl (mm_at ok_Sp_gain (i := 20) rfl).1 (ct_Sp_kindOf dy g2 P r hP2 hL hl) (by decide) ⟨by omega, by omega⟩ (Nat.le_of_ble_eq_true rfl) (mm_vs_b (b := 77) rfl (hp_len dy)) (fun v h' hqq => ?_)
  obtain ⟨rfl, hqe⟩ := hqq; rw [hqe]
  refine mm_B ok_Sp_gain 21 5 (48, [some (.ref 1), some (.int (nI c)), some (.int (nI l)), some (.int (nI k)), some (.int (nI o)), some (.int (cl_ (sp_W C ag c l k o)))], [.int (g2 4 ((nI l).toNatClampNeg)), .ref (19 + T.2.1 l), .int 0], (hp_SH ++ dy, g2, r)) [vp_in (nI l) 4] rfl (show vp_in (nI l) 4 from (nI_vi (by omega) (by decide))) ?_
  rw [e4]
  refine vc_value (k := T.2.1 l) h6 lk_Sp_110 (mm_at ok_Sp_gain (i := 26) rfl).1 (by decide) ⟨Nat.le_refl _, Nat.le_refl _⟩ (Nat.le_of_ble_eq_true rfl) (mm_vs_b (b := 77) rfl (hp_len dy)) ?_
  rw [vn_value _ h6 _ h9]
  refine mm_B ok_Sp_gain 27 2 (54, [some (.ref 1), some (.int (nI c)), some (.int (nI l)), some (.int (nI k)), some (.int (nI o)), some (.int (cl_ (sp_W C ag c l k o)))], [.int ((nI (sp_vl (T.2.1 l) (T.2.2.1 l))) + (cl_ (sp_W C ag c l k o))), .int 0], (hp_SH ++ dy, g2, r)) [] rfl trivial ?_
  refine mm_max lk_Sp_107 (mm_at ok_Sp_gain (i := 29) rfl).1 (by decide) ⟨Nat.le_refl _, Nat.le_refl _⟩ (Nat.le_of_ble_eq_true rfl) ?_
  rw [gn_eq (sp_vl_le _ _ h9')]
  exact mm_ri rfl (mm_at ok_Sp_gain (i := 30) rfl).1 ⟨Nat.le_refl _, Nat.le_refl _⟩ (⟨rfl, g2, rfl, hF1.tr hF2⟩)
def sp_rn (w : Int32) : Nat := (max 0 (min 99 w.toInt)).toNat
theorem rn_eq (w : Int32) : (if 0 < (if w < 99 then w else 99) then (if w < 99 then w else 99) else 0) = nI (sp_rn w) := by
  have h1 : (0 : Int32).toInt = 0 := rfl
  have h2 : (99 : Int32).toInt = 99 := rfl
  rw [← Int32.toInt_inj, nI_toI (by unfold sp_rn; omega)]
  simp only [Int32.lt_iff_toInt_lt, h1, h2]
  unfold sp_rn
  repeat' split
  all_goals simp only [h1, h2] at *
  all_goals omega
theorem ct_Sp_runCost (dy : List mm_Sh) (g P : Nat → Nat → Int32) (r : (Nat → Nat → Int64) × Nat × (Nat → Int32)) (hP : nr_ g = P) {C : Nat → List Int32} (hR : rt_R dy P C) {ag : Nat → Nat} {c b : Nat} (hc : c < 6) (hag : P 8 c = nI (ag c)) : mm_Ct 3 M_Sp_runCost [.ref 1, .int (nI c), .int (nI b)] (hp_SH ++ dy, g, r) 0 0 (fun v h' => v = some (.int (nI (sp_rn (sp_R C ag c b)))) ∧ ∃ g', h' = (hp_SH ++ dy, g', r) ∧ fr_ f1_ g g') := by
  obtain ⟨ru, tc, h22, hru, h11, htc, a0, a1, a2, hsh, -, -, ⟨s0, l0, n0, c0⟩⟩ := hR
  refine mm_start pl_Sp (Nat.le_of_ble_eq_true rfl) ?_
  refine mm_B ok_Sp_runCost 0 6 (6, [some (.ref 1), some (.int (nI c)), some (.int (nI b))], [.int 0, .int 0, .int 0, .int (nI b), .int (nI c), .ref 1], (hp_SH ++ dy, g, r)) [] rfl trivial ?_
  refine mm_cV (as := [.int (nI c), .int (nI b), .int 0, .int 0, .int 0]) (st := []) (q := 1) cw_Sp_stage lk_Sp_84 in_Sp_stage sl_Sp_stage rfl rfl (mm_at ok_Sp_runCost (i := 6) rfl).1 (ct_Sp_stage dy g r (nI c) (nI b) 0 0 0 (nI_vi hc (by decide))) (by decide) ⟨by omega, by omega⟩ (Nat.le_of_ble_eq_true rfl) (mm_vs_b (b := 77) rfl (hp_len dy)) (fun v h' hqq => ?_)
  obtain ⟨rfl, g1, hqe, hF1, q0, q1, q2, q3, q4, q5⟩ := hqq; rw [hqe]
  rw [nI_clamp (by omega), nr_at hP 8 c rfl, hag] at q4
  have hP1 := hF1.nr f1_nr hP
  refine mm_B ok_Sp_runCost 7 4 (14, [some (.ref 1), some (.int (nI c)), some (.int (nI b))], [.ref 1, .ref 1, .int 99, .int 0], (hp_SH ++ dy, g1, r)) [] rfl trivial ?_
  refine mm_cV (as := []) (st := [.ref 1, .int 99, .int 0]) (q := 1) cw_Sp_ruleText lk_Sp_88 in_Sp_ruleText sl_Sp_ruleText rfl rfl (mm_at ok_Sp_runCost (i := 11) rfl).1 (ct_Sp_ruleText dy g1 P r hP1 h22 hru h11 htc) (by decide) ⟨by omega, by omega⟩ (Nat.le_of_ble_eq_true rfl) (mm_vs_b (b := 77) rfl (hp_len dy)) (fun v h' hqq => ?_)
  obtain ⟨rfl, hqe⟩ := hqq; rw [hqe]
  refine mm_get (ci := 10) (y := 2) (mm_fm_lk (by decide +kernel)) hsh rfl (mm_at ok_Sp_runCost (i := 12) rfl).1 ?_
  refine mm_cV (as := [.ref a2]) (st := [.int 99, .int 0]) (q := 1) cw_Sp_worked lk_Sp_95 in_Sp_worked sl_Sp_worked rfl rfl (mm_at ok_Sp_runCost (i := 13) rfl).1 (ct_Sp_worked g1 P r dy s0 l0 n0 c0 hP1 rfl rfl) (by decide) ⟨by omega, by omega⟩ (Nat.le_of_ble_eq_true rfl) (mm_vs_b (b := 77) rfl (hp_len dy)) (fun v h' hqq => ?_)
  obtain ⟨rfl, g2, hqe, hF2⟩ := hqq; rw [hqe, ev_eq (C 2) q0 q1 q2 q3 q4 q5]
  refine mm_min lk_Sp_102 (mm_at ok_Sp_runCost (i := 14) rfl).1 (by decide) ⟨Nat.le_refl _, Nat.le_refl _⟩ (Nat.le_of_ble_eq_true rfl) ?_
  refine mm_max lk_Sp_107 (mm_at ok_Sp_runCost (i := 15) rfl).1 (by decide) ⟨Nat.le_refl _, Nat.le_refl _⟩ (Nat.le_of_ble_eq_true rfl) ?_
  rw [rn_eq]
  exact mm_ri rfl (mm_at ok_Sp_runCost (i := 16) rfl).1 ⟨Nat.le_refl _, Nat.le_refl _⟩ (⟨rfl, g2, rfl, hF1.tr hF2⟩)
/-- a lesson is heard at bend b -/
def sp_ub (T : sp_T) (c : sp_C) (b l : Nat) : Prop := sp_times T l ≤ c.1 l + 1 ∧ sp_has T c.2 b &&& T.2.2.2 l = T.2.2.2 l ∧ sp_has T c.2 b / 2 ^ l % 2 = 0
theorem sp_up_at (f : Nat → Nat) (k v : Nat) : sp_up f k v k = v := if_pos rfl
theorem sp_up_ne (f : Nat → Nat) {k j : Nat} (v : Nat) (h : j ≠ k) : sp_up f k v j = f j := if_neg h
noncomputable def sp_lis (T : sp_T) (c : sp_C) (b l : Nat) : sp_C := (sp_up c.1 l (c.1 l + 1), @ite _ (sp_ub T c b l) (Classical.propDecidable _) (sp_up c.2 l (b + 1)) c.2)
theorem sp_has_lt (T : sp_T) (t : Nat → Nat) (b : Nat) (h4 : T.1 ≤ 4) : sp_has T t b < 16 := by
  have h := sp_bits_lt T t b T.1
  have : 2 ^ T.1 ≤ 2 ^ 4 := Nat.pow_le_pow_right (by decide) h4
  unfold sp_has
  omega
theorem ct_Sp_listened (dy : List mm_Sh) (g P : Nat → Nat → Int32) (r : (Nat → Nat → Int64) × Nat × (Nat → Int32)) (hP : nr_ g = P) {T : sp_T} {c : sp_C} {b l : Nat} (hL : rl_L T P) (hb : b < 6) (hc : ∀ i, i < 4 → c.1 i ≤ b ∧ c.2 i ≤ b) (hl : l < T.1) : mm_Ct 6 M_Sp_listened [.ref 1, .int (nI (sp_enc c)), .int (nI b), .int (nI l)] (hp_SH ++ dy, g, r) 0 0 (fun v h' => v = some (.int (nI (sp_enc (sp_lis T c b l)))) ∧ h' = (hp_SH ++ dy, g, r)) := by
  have h4 := hL.2.1
  have hl4 : l < 4 := by omega
  obtain ⟨-, h6, h4l, h9', h5l, hnd⟩ := hL.2.2.1 l hl
  have h9 : T.2.2.1 l < 10 := by omega
  have hnd16 : T.2.2.2 l < 16 := Nat.lt_of_lt_of_le hnd (Nat.pow_le_pow_right (n := 2) (by decide) (show l ≤ 4 by omega))
  have hh := sp_has_lt T c.2 b h4
  have e4 : g 4 (nI l).toNatClampNeg = nI (T.2.2.1 l) := by rw [nI_clamp (by omega), nr_at hP 4 l rfl]; exact h4l
  have e5 : g 5 (nI l).toNatClampNeg = nI (T.2.2.2 l) := by rw [nI_clamp (by omega), nr_at hP 5 l rfl]; exact h5l
  obtain ⟨c', hc'⟩ : ∃ c' : sp_C, c' = (sp_up c.1 l (c.1 l + 1), c.2) := ⟨_, rfl⟩
  have hok : sp_ok c' := by
    intro i hi
    rw [hc']
    refine ⟨?_, by have := (hc i hi).2; show c.2 i < 7; omega⟩
    by_cases e : i = l
    · subst e; show sp_up c.1 i (c.1 i + 1) i < 7; rw [sp_up_at]; have := (hc i hi).1; omega
    · show sp_up c.1 l (c.1 l + 1) i < 7; rw [sp_up_ne _ _ e]; have := (hc i hi).1; omega
  have hc2 : c'.2 = c.2 := by rw [hc']
  have hcl : c'.1 l = c.1 l + 1 := by rw [hc']; exact sp_up_at _ _ _
  have hE : nI (sp_enc c) + (1 <<< ((3 * nI l) &&& 31)) = nI (sp_enc c') := by rw [me_hear hl4, hc']
  have htm : sp_times T l < 10 := by
    unfold sp_times sp_tm
    split <;> omega
  have hno : ¬ sp_ub T c b l → sp_enc (sp_lis T c b l) = sp_enc c' := by
    intro h
    unfold sp_lis
    rw [if_neg h, hc']
  have hyes : sp_ub T c b l → sp_enc (sp_lis T c b l) = sp_enc (c'.1, sp_up c'.2 l (b + 1)) := by
    intro h
    unfold sp_lis
    rw [if_pos h, hc']
  refine mm_start pl_Sp (Nat.le_of_ble_eq_true rfl) ?_
  refine mm_B ok_Sp_listened 0 8 (9, [some (.ref 1), some (.int (nI (sp_enc c))), some (.int (nI b)), some (.int (nI l)), some (.int ((nI (sp_enc c)) + (1 <<< ((3 * (nI l)) &&& 31)))), none, none, none, none], [], (hp_SH ++ dy, g, r)) [] rfl trivial ?_
  rw [hE]
  refine mm_B ok_Sp_listened 8 3 (13, [some (.ref 1), some (.int (nI (sp_enc c))), some (.int (nI b)), some (.int (nI l)), some (.int (nI (sp_enc c'))), none, none, none, none], [.int (nI b), .int (nI (sp_enc c')), .ref 1], (hp_SH ++ dy, g, r)) [] rfl trivial ?_
  refine mm_cV (as := [.int (nI (sp_enc c')), .int (nI b)]) (st := []) (q := 1) cw_Sp_owned lk_Sp_117 in_Sp_owned sl_Sp_owned rfl rfl (mm_at ok_Sp_listened (i := 11) rfl).1 (ct_Sp_owned dy g P r hP hL hok hb (fun i hi => by rw [hc2]; have := (hc i (by omega)).2; omega)) (by decide) ⟨by omega, by omega⟩ (Nat.le_of_ble_eq_true rfl) (mm_vs_b (b := 77) rfl (hp_len dy)) (fun v h' hqq => ?_)
  obtain ⟨rfl, hqe⟩ := hqq; rw [hqe, hc2]
  refine mm_B ok_Sp_listened 12 9 (32, [some (.ref 1), some (.int (nI (sp_enc c))), some (.int (nI b)), some (.int (nI l)), some (.int (nI (sp_enc c'))), some (.int (nI (sp_has T c.2 b))), some (.int (g 5 ((nI l).toNatClampNeg))), none, none], [.int (nI l), .int (nI (sp_enc c'))], (hp_SH ++ dy, g, r)) [vp_in (nI l) 4] rfl (show vp_in (nI l) 4 from (nI_vi hl4 (by decide))) ?_
  rw [e5]
  refine mm_cS (as := [.int (nI (sp_enc c')), .int (nI l)]) (st := []) cw_Sp_timesHeard lk_Sp_123 sx_Sp_timesHeard (mm_at ok_Sp_listened (i := 21) rfl).1 (ct_Sp_timesHeard (hp_SH ++ dy, g, r) (nI (sp_enc c')) (nI l)) (by decide) ⟨by omega, by omega⟩ (Nat.le_of_ble_eq_true rfl) (mm_vs_b (b := 77) rfl (hp_len dy)) (fun v h' hqq => ?_)
  obtain ⟨rfl, hqe⟩ := hqq; rw [hqe, me_times hok hl4, hcl]
  refine mm_B ok_Sp_listened 22 2 (37, [some (.ref 1), some (.int (nI (sp_enc c))), some (.int (nI b)), some (.int (nI l)), some (.int (nI (sp_enc c'))), some (.int (nI (sp_has T c.2 b))), some (.int (nI (T.2.2.2 l))), none, none], [.int (nI l), .ref 1, .int (nI (c.1 l + 1))], (hp_SH ++ dy, g, r)) [] rfl trivial ?_
  refine mm_cV (as := [.int (nI l)]) (st := [.int (nI (c.1 l + 1))]) (q := 1) cw_Sp_kindOf lk_Sp_73 in_Sp_kindOf sl_Sp_kindOf rfl rfl (mm_at ok_Sp_listened (i := 24) rfl).1 (ct_Sp_kindOf dy g P r hP hL hl) (by decide) ⟨by omega, by omega⟩ (Nat.le_of_ble_eq_true rfl) (mm_vs_b (b := 77) rfl (hp_len dy)) (fun v h' hqq => ?_)
  obtain ⟨rfl, hqe⟩ := hqq; rw [hqe]
  refine mm_B ok_Sp_listened 25 5 (49, [some (.ref 1), some (.int (nI (sp_enc c))), some (.int (nI b)), some (.int (nI l)), some (.int (nI (sp_enc c'))), some (.int (nI (sp_has T c.2 b))), some (.int (nI (T.2.2.2 l))), none, none], [.int (g 4 ((nI l).toNatClampNeg)), .ref (19 + T.2.1 l), .int (nI (c.1 l + 1))], (hp_SH ++ dy, g, r)) [vp_in (nI l) 4] rfl (show vp_in (nI l) 4 from (nI_vi hl4 (by decide))) ?_
  rw [e4]
  refine vc_times (k := T.2.1 l) h6 lk_Sp_126 (mm_at ok_Sp_listened (i := 30) rfl).1 (by decide) ⟨Nat.le_refl _, Nat.le_refl _⟩ (Nat.le_of_ble_eq_true rfl) (mm_vs_b (b := 77) rfl (hp_len dy)) ?_
  rw [vn_times _ h6 _ h9]
  have hcb := (hc l hl4).1
  refine mm_I ok_Sp_listened 31 0 52 [some (.ref 1), some (.int (nI (sp_enc c))), some (.int (nI b)), some (.int (nI l)), some (.int (nI (sp_enc c'))), some (.int (nI (sp_has T c.2 b))), some (.int (nI (T.2.2.2 l))), none, none] [.int (nI (sp_times T l)), .int (nI (c.1 l + 1))] (hp_SH ++ dy, g, r) [] rfl trivial rfl rfl (fun ht => ?_) (fun ht => ?_)
  · have ht : ¬ sp_times T l ≤ c.1 l + 1 := fun q => nI_nlt q (by omega) ht
    refine mm_B ok_Sp_listened 34 1 (60, [some (.ref 1), some (.int (nI (sp_enc c))), some (.int (nI b)), some (.int (nI l)), some (.int (nI (sp_enc c'))), some (.int (nI (sp_has T c.2 b))), some (.int (nI (T.2.2.2 l))), none, none], [.int 0], (hp_SH ++ dy, g, r)) [] rfl trivial ?_
    refine mm_I ok_Sp_listened 35 2 64 [some (.ref 1), some (.int (nI (sp_enc c))), some (.int (nI b)), some (.int (nI l)), some (.int (nI (sp_enc c'))), some (.int (nI (sp_has T c.2 b))), some (.int (nI (T.2.2.2 l))), some (.int 0), none] [.int 0] (hp_SH ++ dy, g, r) [] rfl trivial rfl rfl (fun _ => ?_) (fun q => False.elim (q rfl))
    refine mm_B ok_Sp_listened 49 1 (88, [some (.ref 1), some (.int (nI (sp_enc c))), some (.int (nI b)), some (.int (nI l)), some (.int (nI (sp_enc c'))), some (.int (nI (sp_has T c.2 b))), some (.int (nI (T.2.2.2 l))), some (.int 0), none], [.int (nI (sp_enc c'))], (hp_SH ++ dy, g, r)) [] rfl trivial ?_
    rw [← hno (fun q => ht q.1)]
    exact mm_ri rfl (mm_at ok_Sp_listened (i := 50) rfl).1 ⟨Nat.le_refl _, Nat.le_refl _⟩ (⟨rfl, rfl⟩)
  · have ht : sp_times T l ≤ c.1 l + 1 := by
      rcases Nat.lt_or_ge (c.1 l + 1) (sp_times T l) with h | h
      · exact absurd (nI_lt h (by omega)) ht
      · exact h
    refine mm_B ok_Sp_listened 32 2 (60, [some (.ref 1), some (.int (nI (sp_enc c))), some (.int (nI b)), some (.int (nI l)), some (.int (nI (sp_enc c'))), some (.int (nI (sp_has T c.2 b))), some (.int (nI (T.2.2.2 l))), none, none], [.int 1], (hp_SH ++ dy, g, r)) [] rfl trivial ?_
    refine mm_I ok_Sp_listened 35 2 64 [some (.ref 1), some (.int (nI (sp_enc c))), some (.int (nI b)), some (.int (nI l)), some (.int (nI (sp_enc c'))), some (.int (nI (sp_has T c.2 b))), some (.int (nI (T.2.2.2 l))), some (.int 1), none] [.int 1] (hp_SH ++ dy, g, r) [] rfl trivial rfl rfl (fun q => False.elim (absurd q (by decide))) (fun _ => ?_)
    refine mm_B ok_Sp_listened 38 4 (74, [some (.ref 1), some (.int (nI (sp_enc c))), some (.int (nI b)), some (.int (nI l)), some (.int (nI (sp_enc c'))), some (.int (nI (sp_has T c.2 b))), some (.int (nI (T.2.2.2 l))), some (.int 1), none], [.int (nI (T.2.2.2 l)), .int ((nI (sp_has T c.2 b)) &&& (nI (T.2.2.2 l)))], (hp_SH ++ dy, g, r)) [] rfl trivial ?_
    rw [bt_and]
    have hand : sp_has T c.2 b &&& T.2.2.2 l ≤ T.2.2.2 l := Nat.and_le_right
    refine mm_I ok_Sp_listened 42 0 74 [some (.ref 1), some (.int (nI (sp_enc c))), some (.int (nI b)), some (.int (nI l)), some (.int (nI (sp_enc c'))), some (.int (nI (sp_has T c.2 b))), some (.int (nI (T.2.2.2 l))), some (.int 1), none] [.int (nI (T.2.2.2 l)), .int (nI (sp_has T c.2 b &&& T.2.2.2 l))] (hp_SH ++ dy, g, r) [] rfl trivial rfl rfl (fun hn => ?_) (fun hn => ?_)
    · have hn : ¬ sp_has T c.2 b &&& T.2.2.2 l = T.2.2.2 l := fun q => hn (by rw [q])
      refine mm_B ok_Sp_listened 49 1 (88, [some (.ref 1), some (.int (nI (sp_enc c))), some (.int (nI b)), some (.int (nI l)), some (.int (nI (sp_enc c'))), some (.int (nI (sp_has T c.2 b))), some (.int (nI (T.2.2.2 l))), some (.int 1), none], [.int (nI (sp_enc c'))], (hp_SH ++ dy, g, r)) [] rfl trivial ?_
      rw [← hno (fun q => hn q.2.1)]
      exact mm_ri rfl (mm_at ok_Sp_listened (i := 50) rfl).1 ⟨Nat.le_refl _, Nat.le_refl _⟩ (⟨rfl, rfl⟩)
    · have hn := (nI_eq (by omega) (by omega)).mp hn
      refine mm_B ok_Sp_listened 43 5 (83, [some (.ref 1), some (.int (nI (sp_enc c))), some (.int (nI b)), some (.int (nI l)), some (.int (nI (sp_enc c'))), some (.int (nI (sp_has T c.2 b))), some (.int (nI (T.2.2.2 l))), some (.int 1), none], [.int (((nI (sp_has T c.2 b)) >>> ((nI l) &&& 31)) &&& 1)], (hp_SH ++ dy, g, r)) [] rfl trivial ?_
      rw [bt_tst _ hh _ hl4]
      refine mm_I ok_Sp_listened 48 0 83 [some (.ref 1), some (.int (nI (sp_enc c))), some (.int (nI b)), some (.int (nI l)), some (.int (nI (sp_enc c'))), some (.int (nI (sp_has T c.2 b))), some (.int (nI (T.2.2.2 l))), some (.int 1), none] [.int (nI (sp_has T c.2 b / 2 ^ l % 2))] (hp_SH ++ dy, g, r) [] rfl trivial rfl rfl (fun hz => ?_) (fun hz => ?_)
      · have hz : sp_has T c.2 b / 2 ^ l % 2 = 0 := by
          rcases Nat.eq_zero_or_pos (sp_has T c.2 b / 2 ^ l % 2) with h | h
          · exact h
          · exact absurd hz (nI_ne0 h (by omega))
        refine mm_B ok_Sp_listened 51 19 (114, [some (.ref 1), some (.int (nI (sp_enc c))), some (.int (nI b)), some (.int (nI l)), some (.int (nI (sp_enc c'))), some (.int (nI (sp_has T c.2 b))), some (.int (nI (T.2.2.2 l))), some (.int 1), some (.int (12 + (3 * (nI l))))], [.int (((nI (sp_enc c')) &&& ((7 <<< ((12 + (3 * (nI l))) &&& 31)) ^^^ (-1))) ||| (((nI b) + 1) <<< ((12 + (3 * (nI l))) &&& 31)))], (hp_SH ++ dy, g, r)) [] rfl trivial ?_
        rw [me_put hok hl4 hb, ← hyes ⟨ht, hn, hz⟩]
        exact mm_ri rfl (mm_at ok_Sp_listened (i := 70) rfl).1 ⟨Nat.le_refl _, Nat.le_refl _⟩ (⟨rfl, rfl⟩)
      · have hz : ¬ sp_has T c.2 b / 2 ^ l % 2 = 0 := fun q => hz (by rw [q]; rfl)
        refine mm_B ok_Sp_listened 49 1 (88, [some (.ref 1), some (.int (nI (sp_enc c))), some (.int (nI b)), some (.int (nI l)), some (.int (nI (sp_enc c'))), some (.int (nI (sp_has T c.2 b))), some (.int (nI (T.2.2.2 l))), some (.int 1), none], [.int (nI (sp_enc c'))], (hp_SH ++ dy, g, r)) [] rfl trivial ?_
        rw [← hno (fun q => hz q.2.2)]
        exact mm_ri rfl (mm_at ok_Sp_listened (i := 50) rfl).1 ⟨Nat.le_refl _, Nat.le_refl _⟩ (⟨rfl, rfl⟩)

