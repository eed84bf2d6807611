/-! ===== the rule, as it is asked ===== -/
def sc_6 (b c l k a o : Int32) : Nat → Int32
  | 0 => b
  | 1 => c
  | 2 => l
  | 3 => k
  | 4 => a
  | _ => o
/-- what a row of signs says of a scene -/
def ev_ (cl : List Int32) (b c l k a o : Int32) : Int32 := wk_v (wk_r (sc_6 b c l k a o) cl (0, fun _ => 0))
theorem wk_ix {s : Int32} (h1 : ¬ s < -6) (h2 : s < 0) : (-1 - s).toNatClampNeg < 6 := Nat.not_le.mp (fun q => wk_vi h1 h2 (Or.inr q))
theorem wk_same {sc sc' : Nat → Int32} (hs : ∀ i, i < 6 → sc i = sc' i) : ∀ (cl : List Int32) (n : Nat) (f f' : Nat → Int32), (∀ i, i < n → f i = f' i) → (wk_r sc cl (n, f)).1 = (wk_r sc' cl (n, f')).1 ∧ ∀ i, i < (wk_r sc cl (n, f)).1 → (wk_r sc cl (n, f)).2 i = (wk_r sc' cl (n, f')).2 i := by
  intro cl
  induction cl with
  | nil => intro n f f' h; exact ⟨rfl, h⟩
  | cons s cl ih =>
    intro n f f' h
    show (wk_r sc cl (wk_s sc s (n, f))).1 = (wk_r sc' cl (wk_s sc' s (n, f'))).1 ∧ ∀ i, i < (wk_r sc cl (wk_s sc s (n, f))).1 → (wk_r sc cl (wk_s sc s (n, f))).2 i = (wk_r sc' cl (wk_s sc' s (n, f'))).2 i
    have up : ∀ (m j : Nat) (v v' : Int32), v = v' → (∀ i, i < m → i ≠ j → f i = f' i) → ∀ i, i < m → upd f j v i = upd f' j v' i := by
      intro m j v v' hv hf i hi
      by_cases e : i = j
      · simp [upd, e, hv]
      · simp [upd, e, hf i hi e]
    unfold wk_s
    by_cases h6 : s < -6
    · rw [if_pos h6, if_pos h6]
      by_cases h9 : s = -9 ∧ 0 < n
      · rw [if_pos h9, if_pos h9]
        exact ih _ _ _ (up n (n - 1) _ _ (by show (if f (n - 1) = 0 then (1 : Int32) else 0) = if f' (n - 1) = 0 then 1 else 0; rw [h (n - 1) (by omega)]) (fun i hi _ => h i hi))
      · rw [if_neg h9, if_neg h9]
        by_cases h15 : s = -15 ∧ 0 < n
        · rw [if_pos h15, if_pos h15]
          exact ih _ _ _ (up n (n - 1) _ _ (by show -(f (n - 1)) = -(f' (n - 1)); rw [h (n - 1) (by omega)]) (fun i hi _ => h i hi))
        · rw [if_neg h15, if_neg h15]
          by_cases h1 : 1 < n
          · rw [if_pos h1, if_pos h1]
            exact ih _ _ _ (up (n - 1) (n - 2) _ _ (by show jn_ s (f (n - 2)) (f (n - 1)) = jn_ s (f' (n - 2)) (f' (n - 1)); rw [h (n - 1) (by omega), h (n - 2) (by omega)]) (fun i hi _ => h i (by omega)))
          · rw [if_neg h1, if_neg h1]
            exact ih _ _ _ h
    · rw [if_neg h6, if_neg h6]
      refine ih _ _ _ (up (n + 1) n _ _ ?_ (fun i hi e => h i (by omega)))
      by_cases h0 : s < 0
      · rw [if_pos h0, if_pos h0]; exact hs _ (wk_ix h6 h0)
      · rw [if_neg h0, if_neg h0]
theorem ev_eq {sc f0 : Nat → Int32} (cl : List Int32) {b c l k a o : Int32} (h0 : sc 0 = b) (h1 : sc 1 = c) (h2 : sc 2 = l) (h3 : sc 3 = k) (h4 : sc 4 = a) (h5 : sc 5 = o) : wk_v (wk_r sc cl (0, f0)) = ev_ cl b c l k a o := by
  obtain ⟨e1, e2⟩ := wk_same (sc := sc) (sc' := sc_6 b c l k a o) (fun i hi => by
    match i, hi with
    | 0, _ => exact h0
    | 1, _ => exact h1
    | 2, _ => exact h2
    | 3, _ => exact h3
    | 4, _ => exact h4
    | 5, _ => exact h5) cl 0 f0 (fun _ => 0) (fun i hi => absurd hi (by omega))
  unfold ev_ wk_v
  rw [← e1]
  by_cases h : 0 < (wk_r sc cl (0, f0)).1
  · rw [if_pos h, if_pos h]; exact e2 _ (by omega)
  · rw [if_neg h, if_neg h]
/-- a cell that holds a row of signs -/
def rt_A (dy : List mm_Sh) (P : Nat → Nat → Int32) (a : Nat) (cl : List Int32) : Prop := (hp_SH ++ dy)[a]? = some (.inl (0, cl.length)) ∧ cl.length ≤ 155 ∧ (∀ j, nr_s a j = false) ∧ ∀ i, i < cl.length → P a i = cl.getD i 0
/-- a cell that is a text -/
def rt_T (dy : List mm_Sh) (P : Nat → Nat → Int32) (tc : Nat) (C : Nat → List Int32) : Prop := ∃ a0 a1 a2 : Nat, (hp_SH ++ dy)[tc]? = some (.inr (10, [a0 + 3, a1 + 3, a2 + 3])) ∧ rt_A dy P a0 (C 0) ∧ rt_A dy P a1 (C 1) ∧ rt_A dy P a2 (C 2)
/-- the rule in force is C's three rows -/
def rt_R (dy : List mm_Sh) (P : Nat → Nat → Int32) (C : Nat → List Int32) : Prop := ∃ ru tc : Nat, P 2 2 = nI ru ∧ ru < 6 ∧ P 11 ru = nI (tc + 1) ∧ tc + 1 < 2 ^ 31 ∧ rt_T dy P tc C
theorem ct_Sp_ruleText (dy : List mm_Sh) (g P : Nat → Nat → Int32) (r : (Nat → Nat → Int64) × Nat × (Nat → Int32)) (hP : nr_ g = P) {ru tc : Nat} (h22 : P 2 2 = nI ru) (hru : ru < 6) (h11 : P 11 ru = nI (tc + 1)) (htc : tc + 1 < 2 ^ 31) : mm_Ct 1 M_Sp_ruleText [.ref 1] (hp_SH ++ dy, g, r) 0 0 (fun v h' => v = some (.ref tc) ∧ h' = (hp_SH ++ dy, g, r)) := by
  have e22 : g 2 2 = nI ru := by rw [nr_at hP 2 2 rfl]; exact h22
  refine mm_start pl_Sp (Nat.le_of_ble_eq_true rfl) ?_
  refine mm_B ok_Sp_ruleText 0 5 (11, [some (.ref 1), none], [.int (g 2 2), .ref 11], (hp_SH ++ dy, g, r)) [] rfl trivial ?_
  rw [e22]
  refine mm_aald (t := 2) (n := 6) (v := .ref tc) (Or.inl rfl) rfl (nI_vi hru (by decide)) ?_ (mm_at ok_Sp_ruleText (i := 5) rfl).1 ?_
  · show mm_rf (g 11 (nI ru).toNatClampNeg) = _; rw [nI_clamp (by omega), nr_at hP 11 ru rfl, h11]; unfold mm_rf; rw [if_neg (nI_nle (by omega) htc), nI_clamp htc]; rfl
  refine mm_I ok_Sp_ruleText 6 2 14 [some (.ref 1), some (.ref tc)] [.ref tc] (hp_SH ++ dy, g, r) [] rfl trivial rfl rfl (fun _ => ?_) (fun q => q.elim)
  refine mm_B ok_Sp_ruleText 12 1 (25, [some (.ref 1), some (.ref tc)], [.ref tc], (hp_SH ++ dy, g, r)) [] rfl trivial ?_
  exact mm_ra rfl (Or.inl ⟨_, rfl⟩) rfl (mm_at ok_Sp_ruleText (i := 13) rfl).1 ⟨Nat.le_refl _, Nat.le_refl _⟩ (⟨rfl, rfl⟩)
/-- the three ways in which the rule is asked -/
def sp_H (C : Nat → List Int32) (ag : Nat → Nat) (c b l k o : Nat) : Bool := decide (ev_ (C 0) (nI b) (nI c) (nI l) (nI k) (nI (ag c)) (nI o) ≠ 0)
def sp_W (C : Nat → List Int32) (ag : Nat → Nat) (c l k o : Nat) : Int32 := ev_ (C 1) 5 (nI c) (nI l) (nI k) (nI (ag c)) (nI o)
def sp_R (C : Nat → List Int32) (ag : Nat → Nat) (c b : Nat) : Int32 := ev_ (C 2) (nI b) (nI c) 0 0 (nI (ag c)) 0
theorem ct_Sp_hears (dy : List mm_Sh) (g P : Nat → Nat → Int32) (r : (Nat → Nat → Int64) × Nat × (Nat → Int32)) (hP : nr_ g = P) {C : Nat → List Int32} (hR : rt_R dy P C) {ag : Nat → Nat} {c b l k o : Nat} (hc : c < 6) (hag : P 8 c = nI (ag c)) : mm_Ct 3 M_Sp_hears [.ref 1, .int (nI c), .int (nI b), .int (nI l), .int (nI k), .int (nI o)] (hp_SH ++ dy, g, r) 0 0 (fun v h' => v = some (.int (if sp_H C ag c b l k o = true then 1 else 0)) ∧ ∃ g', h' = (hp_SH ++ dy, g', r) ∧ fr_ f1_ g g') := by
  obtain ⟨ru, tc, h22, hru, h11, htc, a0, a1, a2, hsh, ⟨s0, l0, n0, c0⟩, -, -⟩ := hR
  refine mm_start pl_Sp (Nat.le_of_ble_eq_true rfl) ?_
  refine mm_B ok_Sp_hears 0 6 (8, [some (.ref 1), some (.int (nI c)), some (.int (nI b)), some (.int (nI l)), some (.int (nI k)), some (.int (nI o))], [.int (nI o), .int (nI k), .int (nI l), .int (nI b), .int (nI c), .ref 1], (hp_SH ++ dy, g, r)) [] rfl trivial ?_
  refine mm_cV (as := [.int (nI c), .int (nI b), .int (nI l), .int (nI k), .int (nI o)]) (st := []) (q := 1) cw_Sp_stage lk_Sp_84 in_Sp_stage sl_Sp_stage rfl rfl (mm_at ok_Sp_hears (i := 6) rfl).1 (ct_Sp_stage dy g r (nI c) (nI b) (nI l) (nI k) (nI o) (nI_vi hc (by decide))) (by decide) ⟨by omega, by omega⟩ (Nat.le_of_ble_eq_true rfl) (mm_vs_b (b := 77) rfl (hp_len dy)) (fun v h' hqq => ?_)
  obtain ⟨rfl, g1, hqe, hF1, q0, q1, q2, q3, q4, q5⟩ := hqq; rw [hqe]
  rw [nI_clamp (by omega), nr_at hP 8 c rfl, hag] at q4
  have hP1 := hF1.nr f1_nr hP
  refine mm_B ok_Sp_hears 7 2 (13, [some (.ref 1), some (.int (nI c)), some (.int (nI b)), some (.int (nI l)), some (.int (nI k)), some (.int (nI o))], [.ref 1, .ref 1], (hp_SH ++ dy, g1, r)) [] rfl trivial ?_
  refine mm_cV (as := []) (st := [.ref 1]) (q := 1) cw_Sp_ruleText lk_Sp_88 in_Sp_ruleText sl_Sp_ruleText rfl rfl (mm_at ok_Sp_hears (i := 9) rfl).1 (ct_Sp_ruleText dy g1 P r hP1 h22 hru h11 htc) (by decide) ⟨by omega, by omega⟩ (Nat.le_of_ble_eq_true rfl) (mm_vs_b (b := 77) rfl (hp_len dy)) (fun v h' hqq => ?_)
  obtain ⟨rfl, hqe⟩ := hqq; rw [hqe]
  refine mm_get (ci := 10) (y := 0) (mm_fm_lk (by decide +kernel)) hsh rfl (mm_at ok_Sp_hears (i := 10) rfl).1 ?_
  refine mm_cV (as := [.ref a0]) (st := []) (q := 1) cw_Sp_worked lk_Sp_95 in_Sp_worked sl_Sp_worked rfl rfl (mm_at ok_Sp_hears (i := 11) rfl).1 (ct_Sp_worked g1 P r dy s0 l0 n0 c0 hP1 rfl rfl) (by decide) ⟨by omega, by omega⟩ (Nat.le_of_ble_eq_true rfl) (mm_vs_b (b := 77) rfl (hp_len dy)) (fun v h' hqq => ?_)
  obtain ⟨rfl, g2, hqe, hF2⟩ := hqq; rw [hqe, ev_eq (C 0) q0 q1 q2 q3 q4 q5]
  refine mm_I ok_Sp_hears 12 0 22 [some (.ref 1), some (.int (nI c)), some (.int (nI b)), some (.int (nI l)), some (.int (nI k)), some (.int (nI o))] [.int (ev_ (C 0) (nI b) (nI c) (nI l) (nI k) (nI (ag c)) (nI o))] (hp_SH ++ dy, g2, r) [] rfl trivial rfl rfl (fun h0 => ?_) (fun h0 => ?_)
  · refine mm_B ok_Sp_hears 15 1 (30, [some (.ref 1), some (.int (nI c)), some (.int (nI b)), some (.int (nI l)), some (.int (nI k)), some (.int (nI o))], [.int 0], (hp_SH ++ dy, g2, r)) [] rfl trivial ?_
    exact mm_rz rfl (mm_at ok_Sp_hears (i := 16) rfl).1 ⟨Nat.le_refl _, Nat.le_refl _⟩ (Or.inl rfl) (⟨by rw [sp_H]; simp [h0], g2, rfl, hF1.tr hF2⟩)
  · refine mm_B ok_Sp_hears 13 2 (30, [some (.ref 1), some (.int (nI c)), some (.int (nI b)), some (.int (nI l)), some (.int (nI k)), some (.int (nI o))], [.int 1], (hp_SH ++ dy, g2, r)) [] rfl trivial ?_
    exact mm_rz rfl (mm_at ok_Sp_hears (i := 16) rfl).1 ⟨Nat.le_refl _, Nat.le_refl _⟩ (Or.inr rfl) (⟨by rw [sp_H]; simp [h0], g2, rfl, hF1.tr hF2⟩)
theorem sp_cl_i {x : Int32} : (if -99 < (if x < 99 then x else 99) then (if x < 99 then x else 99) else -99) = if x < -99 then -99 else if 99 < x then 99 else x := by
  simp only [Int32.lt_iff_toInt_lt, ← Int32.toInt_inj]
  have h1 : (-99 : Int32).toInt = -99 := rfl
  have h2 : (99 : Int32).toInt = 99 := rfl
  rw [h1, h2]
  repeat' split
  all_goals omega

