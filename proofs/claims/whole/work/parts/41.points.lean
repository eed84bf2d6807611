/-! ===== Spring: what is owned behind a bend, points, exams ===== -/
theorem nI_mn (a b : Nat) (ha : a < 2 ^ 31) (hb : b < 2 ^ 31) : (if nI b < nI a then nI b else nI a) = nI (min a b) := by
  by_cases h : b < a
  · rw [if_pos (nI_lt h ha), Nat.min_eq_right (by omega)]
  · rw [if_neg (nI_nlt (by omega) hb), Nat.min_eq_left (by omega)]
theorem sp_run_min {T : sp_T} {H : Nat → Nat → Nat → Nat → Bool} {pl : Nat → Option Nat} {on off b : Nat} : ∀ n, n ≤ b + 1 → sp_run T H pl on (min off b) n = sp_run T H pl on off n := by
  intro n
  induction n with
  | zero => intro _; rfl
  | succ n ih =>
    intro h
    simp only [sp_run]
    rw [ih (by omega)]
    by_cases h1 : on ≤ n ∧ n ≤ off
    · rw [if_pos h1, if_pos (by omega)]
    · rw [if_neg h1, if_neg (by omega)]
/-- behind bend b -/
theorem sp_run_beh {T : sp_T} {H : Nat → Nat → Nat → Nat → Bool} {pl : Nat → Option Nat} {on off b : Nat} (hb : b ≤ 5) : sp_run T H pl on (min off b) 6 = sp_run T H pl on off (b + 1) := by
  rw [← sp_run_min (b + 1) (Nat.le_refl _)]
  exact sp_run_off (by omega) 6 (by omega)
theorem ct_Sp_ownedBehind (dy : List mm_Sh) (g P : Nat → Nat → Int32) (r : (Nat → Nat → Int64) × Nat × (Nat → Int32)) (hP : nr_ g = P) {C : Nat → List Int32} (hR : rt_R dy P C) {T : sp_T} (hL : rl_L T P) {ag : Nat → Nat} {c on off b : Nat} {pl : Nat → Option Nat} (hc : c < 6) (hag : P 8 c = nI (ag c)) (hb : b < 6) (hon : on ≤ 6) (hoff : off ≤ 5) (hpl : ∀ b, b < 6 → P 9 b = pl_c (pl b)) (hpo : ∀ b l, b < 6 → pl b = some l → l < T.1) : mm_Ct 8 M_Sp_ownedBehind [.ref 1, .int (nI b), .int (nI c), .int (nI on), .int (nI off)] (hp_SH ++ dy, g, r) 0 0 (fun v h' => v = some (.int (nI (sp_has T (sp_run T (sp_H C ag c) pl on off (b + 1)).2 b))) ∧ ∃ g', h' = (hp_SH ++ dy, g', r) ∧ fr_ f1_ g g') := by
  refine mm_start pl_Sp (Nat.le_of_ble_eq_true rfl) ?_
  refine mm_B ok_Sp_ownedBehind 0 6 (7, [some (.ref 1), some (.int (nI b)), some (.int (nI c)), some (.int (nI on)), some (.int (nI off))], [.int (nI b), .int (nI off), .int (nI on), .int (nI c), .ref 1, .ref 1], (hp_SH ++ dy, g, r)) [] rfl trivial ?_
  refine mm_min lk_Sp_102 (mm_at ok_Sp_ownedBehind (i := 6) rfl).1 (by decide) ⟨Nat.le_refl _, Nat.le_refl _⟩ (Nat.le_of_ble_eq_true rfl) ?_
  rw [nI_mn off b (by omega) (by omega)]
  refine mm_B ok_Sp_ownedBehind 7 3 (17, [some (.ref 1), some (.int (nI b)), some (.int (nI c)), some (.int (nI on)), some (.int (nI off))], [.ref 9, .int (nI (min off b)), .int (nI on), .int (nI c), .ref 1, .ref 1], (hp_SH ++ dy, g, r)) [] rfl trivial ?_
  refine mm_cV (as := [.int (nI c), .int (nI on), .int (nI (min off b)), .ref 9]) (st := [.ref 1]) (q := 1) cw_Sp_memoryOf lk_Sp_144 in_Sp_memoryOf sl_Sp_memoryOf rfl rfl (mm_at ok_Sp_ownedBehind (i := 10) rfl).1 (ct_Sp_memoryOf dy g P r hP hR hL hc hag hon (by omega) rfl (fun _ => rfl) (fun b hb => by rw [nr_at hP 9 b rfl]; exact hpl b hb) hpo) (by decide) ⟨by omega, by omega⟩ (Nat.le_of_ble_eq_true rfl) (mm_vs_b (b := 77) rfl (hp_len dy)) (fun v h' hqq => ?_)
  obtain ⟨rfl, g1, hqe, hF1⟩ := hqq; rw [hqe, sp_run_beh (by omega)]
  refine mm_B ok_Sp_ownedBehind 11 1 (21, [some (.ref 1), some (.int (nI b)), some (.int (nI c)), some (.int (nI on)), some (.int (nI off))], [.int (nI b), .int (nI (sp_enc (sp_run T (sp_H C ag c) pl on off (b + 1)))), .ref 1], (hp_SH ++ dy, g1, r)) [] rfl trivial ?_
  refine mm_cV (as := [.int (nI (sp_enc (sp_run T (sp_H C ag c) pl on off (b + 1)))), .int (nI b)]) (st := []) (q := 1) cw_Sp_owned lk_Sp_117 in_Sp_owned sl_Sp_owned rfl rfl (mm_at ok_Sp_ownedBehind (i := 12) rfl).1 (ct_Sp_owned dy g1 P r (hF1.nr f1_nr hP) hL (sp_run_ok _ _ _ _ _ (by omega)) hb (fun i hi => (sp_run_le _ _ _ _ _ (b + 1) i (by have := hL.2.1; omega)).2)) (by decide) ⟨by omega, by omega⟩ (Nat.le_of_ble_eq_true rfl) (mm_vs_b (b := 77) rfl (hp_len dy)) (fun v h' hqq => ?_)
  obtain ⟨rfl, hqe⟩ := hqq; rw [hqe]
  exact mm_ri rfl (mm_at ok_Sp_ownedBehind (i := 13) rfl).1 ⟨Nat.le_refl _, Nat.le_refl _⟩ (⟨rfl, g1, rfl, hF1⟩)
def sp_sum (f : Nat → Nat) : Nat → Nat
  | 0 => 0
  | n + 1 => sp_sum f n + f n
/-- a child's points by what it carries at the end -/
def sp_pt (T : sp_T) (W : Nat → Nat → Nat → Int32) (cs : sp_C) (l : Nat) : Nat := if sp_has T cs.2 5 / 2 ^ l % 2 = 0 then 0 else sp_gn (sp_value T l) (W l (sp_pc (sp_has T cs.2 5)) (cs.1 l))
theorem po_go (dy : List mm_Sh) (g P : Nat → Nat → Int32) (r : (Nat → Nat → Int64) × Nat × (Nat → Int32)) (hP : nr_ g = P) {C : Nat → List Int32} (hR : rt_R dy P C) {T : sp_T} (hL : rl_L T P) {ag : Nat → Nat} {c : Nat} {cs : sp_C} {pa : Nat} (hc : c < 6) (hag : P 8 c = nI (ag c)) (hok : sp_ok cs) (hplt : pa < (hp_SH ++ dy).length) : ∀ (m k : Nat) (g1 : Nat → Nat → Int32), k + m = T.1 → fr_ f1_ g g1 → mm_W 8 M_Sp_pointsOf 0 0 (fun v h' => v = some (.int (nI (sp_sum (sp_pt T (sp_W C ag c) cs) T.1))) ∧ ∃ g', h' = (hp_SH ++ dy, g', r) ∧ fr_ f1_ g g') 0 0 (39, [some (.ref 1), some (.int (nI c)), some (.ref pa), some (.int (nI (sp_enc cs))), some (.int (nI (sp_has T cs.2 5))), some (.int (nI (sp_sum (sp_pt T (sp_W C ag c) cs) k))), some (.int (nI k))], [], (hp_SH ++ dy, g1, r)) := by
  have h4 := hL.2.1
  have hh := sp_has_lt T cs.2 5 h4
  intro m
  induction m with
  | zero =>
    intro k g1 hk hF
    have e20 : g1 2 0 = nI T.1 := by rw [nr_at (hF.nr f1_nr hP) 2 0 rfl]; exact hL.1
    refine mm_B ok_Sp_pointsOf 24 4 (48, [some (.ref 1), some (.int (nI c)), some (.ref pa), some (.int (nI (sp_enc cs))), some (.int (nI (sp_has T cs.2 5))), some (.int (nI (sp_sum (sp_pt T (sp_W C ag c) cs) k))), some (.int (nI k))], [.int (g1 2 0), .int (nI k)], (hp_SH ++ dy, g1, r)) [] rfl trivial ?_
    rw [e20]
    refine mm_I ok_Sp_pointsOf 28 0 48 [some (.ref 1), some (.int (nI c)), some (.ref pa), some (.int (nI (sp_enc cs))), some (.int (nI (sp_has T cs.2 5))), some (.int (nI (sp_sum (sp_pt T (sp_W C ag c) cs) k))), some (.int (nI k))] [.int (nI T.1), .int (nI k)] (hp_SH ++ dy, g1, r) [] rfl trivial rfl rfl (fun _ => ?_) (fun q => False.elim (q (nI_le (by omega) (by omega))))
    refine mm_B ok_Sp_pointsOf 49 1 (92, [some (.ref 1), some (.int (nI c)), some (.ref pa), some (.int (nI (sp_enc cs))), some (.int (nI (sp_has T cs.2 5))), some (.int (nI (sp_sum (sp_pt T (sp_W C ag c) cs) k))), some (.int (nI k))], [.int (nI (sp_sum (sp_pt T (sp_W C ag c) cs) k))], (hp_SH ++ dy, g1, r)) [] rfl trivial ?_
    exact mm_ri rfl (mm_at ok_Sp_pointsOf (i := 50) rfl).1 ⟨Nat.le_refl _, Nat.le_refl _⟩ (⟨by rw [show k = T.1 by omega], g1, rfl, hF⟩)
  | succ m ih =>
    intro k g1 hk hF
    have hkL : k < T.1 := by omega
    have hk4 : k < 4 := by omega
    have hP1 := hF.nr f1_nr hP
    have e20 : g1 2 0 = nI T.1 := by rw [nr_at hP1 2 0 rfl]; exact hL.1
    refine mm_B ok_Sp_pointsOf 24 4 (48, [some (.ref 1), some (.int (nI c)), some (.ref pa), some (.int (nI (sp_enc cs))), some (.int (nI (sp_has T cs.2 5))), some (.int (nI (sp_sum (sp_pt T (sp_W C ag c) cs) k))), some (.int (nI k))], [.int (g1 2 0), .int (nI k)], (hp_SH ++ dy, g1, r)) [] rfl trivial ?_
    rw [e20]
    refine mm_I ok_Sp_pointsOf 28 0 48 [some (.ref 1), some (.int (nI c)), some (.ref pa), some (.int (nI (sp_enc cs))), some (.int (nI (sp_has T cs.2 5))), some (.int (nI (sp_sum (sp_pt T (sp_W C ag c) cs) k))), some (.int (nI k))] [.int (nI T.1), .int (nI k)] (hp_SH ++ dy, g1, r) [] rfl trivial rfl rfl (fun q => False.elim (nI_ge hkL (by omega) q)) (fun _ => ?_)
    refine mm_B ok_Sp_pointsOf 29 5 (58, [some (.ref 1), some (.int (nI c)), some (.ref pa), some (.int (nI (sp_enc cs))), some (.int (nI (sp_has T cs.2 5))), some (.int (nI (sp_sum (sp_pt T (sp_W C ag c) cs) k))), some (.int (nI k))], [.int (((nI (sp_has T cs.2 5)) >>> ((nI k) &&& 31)) &&& 1)], (hp_SH ++ dy, g1, r)) [] rfl trivial ?_
    rw [bt_tst _ hh _ hk4]
    refine mm_I ok_Sp_pointsOf 34 0 58 [some (.ref 1), some (.int (nI c)), some (.ref pa), some (.int (nI (sp_enc cs))), some (.int (nI (sp_has T cs.2 5))), some (.int (nI (sp_sum (sp_pt T (sp_W C ag c) cs) k))), some (.int (nI k))] [.int (nI (sp_has T cs.2 5 / 2 ^ k % 2))] (hp_SH ++ dy, g1, r) [] rfl trivial rfl rfl (fun hz => ?_) (fun hz => ?_)
    · have hz : sp_has T cs.2 5 / 2 ^ k % 2 = 0 := by
        rcases Nat.eq_zero_or_pos (sp_has T cs.2 5 / 2 ^ k % 2) with h | h
        · exact h
        · exact absurd hz (nI_ne0 h (by omega))
      refine mm_B ok_Sp_pointsOf 47 2 (39, [some (.ref 1), some (.int (nI c)), some (.ref pa), some (.int (nI (sp_enc cs))), some (.int (nI (sp_has T cs.2 5))), some (.int (nI (sp_sum (sp_pt T (sp_W C ag c) cs) k))), some (.int ((nI k) + 1))], [], (hp_SH ++ dy, g1, r)) [] rfl trivial ?_
      rw [nI_1]
      have hn : sp_sum (sp_pt T (sp_W C ag c) cs) (k + 1) = sp_sum (sp_pt T (sp_W C ag c) cs) k := by simp only [sp_sum, sp_pt]; rw [if_pos hz]; omega
      have h8 := ih (k + 1) g1 (by omega) hF
      rw [hn] at h8
      exact h8
    · have hz : ¬ sp_has T cs.2 5 / 2 ^ k % 2 = 0 := fun q => hz (by rw [q]; rfl)
      refine mm_B ok_Sp_pointsOf 35 5 (69, [some (.ref 1), some (.int (nI c)), some (.ref pa), some (.int (nI (sp_enc cs))), some (.int (nI (sp_has T cs.2 5))), some (.int (nI (sp_sum (sp_pt T (sp_W C ag c) cs) k))), some (.int (nI k))], [.int (nI (sp_has T cs.2 5)), .int (nI k), .int (nI c), .ref 1, .int (nI (sp_sum (sp_pt T (sp_W C ag c) cs) k))], (hp_SH ++ dy, g1, r)) [] rfl trivial ?_
      refine mm_cS (as := [.int (nI (sp_has T cs.2 5))]) (st := [.int (nI k), .int (nI c), .ref 1, .int (nI (sp_sum (sp_pt T (sp_W C ag c) cs) k))]) cw_In_bitCount lk_Sp_129 sx_In_bitCount (mm_at ok_Sp_pointsOf (i := 40) rfl).1 (ct_In_bitCount (hp_SH ++ dy, g1, r) (nI (sp_has T cs.2 5))) (by decide) ⟨by omega, by omega⟩ (Nat.le_of_ble_eq_true rfl) ⟨fun k hk => by simp only [List.mem_cons, Option.some.injEq, Value.ref.injEq, reduceCtorEq, List.not_mem_nil, or_false, false_or] at hk; rcases hk with rfl | rfl <;> first | exact hplt | exact Nat.lt_of_lt_of_le (by decide) (hp_len dy), (mm_vs_b (b := 77) (lv := []) rfl (hp_len dy)).2⟩ (fun v h' hqq => ?_)
      obtain ⟨rfl, hqe⟩ := hqq; rw [hqe, pc_bc _ hh]
      refine mm_B ok_Sp_pointsOf 41 2 (75, [some (.ref 1), some (.int (nI c)), some (.ref pa), some (.int (nI (sp_enc cs))), some (.int (nI (sp_has T cs.2 5))), some (.int (nI (sp_sum (sp_pt T (sp_W C ag c) cs) k))), some (.int (nI k))], [.int (nI k), .int (nI (sp_enc cs)), .int (nI (sp_pc (sp_has T cs.2 5))), .int (nI k), .int (nI c), .ref 1, .int (nI (sp_sum (sp_pt T (sp_W C ag c) cs) k))], (hp_SH ++ dy, g1, r)) [] rfl trivial ?_
      refine mm_cS (as := [.int (nI (sp_enc cs)), .int (nI k)]) (st := [.int (nI (sp_pc (sp_has T cs.2 5))), .int (nI k), .int (nI c), .ref 1, .int (nI (sp_sum (sp_pt T (sp_W C ag c) cs) k))]) cw_Sp_timesHeard lk_Sp_123 sx_Sp_timesHeard (mm_at ok_Sp_pointsOf (i := 43) rfl).1 (ct_Sp_timesHeard (hp_SH ++ dy, g1, r) (nI (sp_enc cs)) (nI k)) (by decide) ⟨by omega, by omega⟩ (Nat.le_of_ble_eq_true rfl) ⟨fun k hk => by simp only [List.mem_cons, Option.some.injEq, Value.ref.injEq, reduceCtorEq, List.not_mem_nil, or_false, false_or] at hk; rcases hk with rfl | rfl <;> first | exact hplt | exact Nat.lt_of_lt_of_le (by decide) (hp_len dy), (mm_vs_b (b := 77) (lv := []) rfl (hp_len dy)).2⟩ (fun v h' hqq => ?_)
      obtain ⟨rfl, hqe⟩ := hqq; rw [hqe, me_times hok hk4]
      refine mm_cV (as := [.int (nI c), .int (nI k), .int (nI (sp_pc (sp_has T cs.2 5))), .int (nI (cs.1 k))]) (st := [.int (nI (sp_sum (sp_pt T (sp_W C ag c) cs) k))]) (q := 1) cw_Sp_gain lk_Sp_154 in_Sp_gain sl_Sp_gain rfl rfl (mm_at ok_Sp_pointsOf (i := 44) rfl).1 (ct_Sp_gain dy g1 P r hP1 hR hL hc hag hkL (k := sp_pc (sp_has T cs.2 5)) (o := cs.1 k)) (by decide) ⟨by omega, by omega⟩ (Nat.le_of_ble_eq_true rfl) ⟨fun k hk => by simp only [List.mem_cons, Option.some.injEq, Value.ref.injEq, reduceCtorEq, List.not_mem_nil, or_false, false_or] at hk; rcases hk with rfl | rfl <;> first | exact hplt | exact Nat.lt_of_lt_of_le (by decide) (hp_len dy), (mm_vs_b (b := 77) (lv := []) rfl (hp_len dy)).2⟩ (fun v h' hqq => ?_)
      obtain ⟨rfl, g2, hqe, hF2⟩ := hqq; rw [hqe]
      refine mm_B ok_Sp_pointsOf 45 4 (39, [some (.ref 1), some (.int (nI c)), some (.ref pa), some (.int (nI (sp_enc cs))), some (.int (nI (sp_has T cs.2 5))), some (.int ((nI (sp_sum (sp_pt T (sp_W C ag c) cs) k)) + (nI (sp_gn (sp_value T k) (sp_W C ag c k (sp_pc (sp_has T cs.2 5)) (cs.1 k)))))), some (.int ((nI k) + 1))], [], (hp_SH ++ dy, g2, r)) [] rfl trivial ?_
      rw [nI_1, nI_add]
      have hn : sp_sum (sp_pt T (sp_W C ag c) cs) (k + 1) = sp_sum (sp_pt T (sp_W C ag c) cs) k + sp_gn (sp_value T k) (sp_W C ag c k (sp_pc (sp_has T cs.2 5)) (cs.1 k)) := by simp only [sp_sum, sp_pt]; rw [if_neg hz]
      have h8 := ih (k + 1) g2 (by omega) (hF.tr hF2)
      rw [hn] at h8
      exact h8
/-- a child's points by a plan -/
noncomputable def sp_pts (T : sp_T) (C : Nat → List Int32) (K : sp_K) (pl : Nat → Option Nat) (c : Nat) : Nat := sp_sum (sp_pt T (sp_W C K.2.2.2 c) (sp_run T (sp_H C K.2.2.2 c) pl (K.2.1 c) (K.2.2.1 c) 6)) T.1
theorem ct_Sp_pointsOf (dy : List mm_Sh) (g P : Nat → Nat → Int32) (r : (Nat → Nat → Int64) × Nat × (Nat → Int32)) (hP : nr_ g = P) {C : Nat → List Int32} (hR : rt_R dy P C) {T : sp_T} (hL : rl_L T P) {K : sp_K} {c : Nat} (hK : rl_C K P) (hc : c < K.1) {pa : Nat} {pl : Nat → Option Nat} (hpa : (hp_SH ++ dy)[pa]? = some (.inl (0, 6))) (hpf : ∀ j, f1_ pa j = false) (hpl : ∀ b, b < 6 → g pa b = pl_c (pl b)) (hpo : ∀ b l, b < 6 → pl b = some l → l < T.1) : mm_Ct 8 M_Sp_pointsOf [.ref 1, .int (nI c), .ref pa] (hp_SH ++ dy, g, r) 0 0 (fun v h' => v = some (.int (nI (sp_pts T C K pl c))) ∧ ∃ g', h' = (hp_SH ++ dy, g', r) ∧ fr_ f1_ g g') := by
  obtain ⟨h21, h6, hcs⟩ := hK
  obtain ⟨h6c, h7c, hle, hoff, hag⟩ := hcs c hc
  have hplt : pa < (hp_SH ++ dy).length := (List.getElem?_eq_some_iff.mp hpa).1
  have e6 : g 6 (nI c).toNatClampNeg = nI (K.2.1 c) := by rw [nI_clamp (by omega), nr_at hP 6 c rfl]; exact h6c
  have e7 : g 7 (nI c).toNatClampNeg = nI (K.2.2.1 c) := by rw [nI_clamp (by omega), nr_at hP 7 c rfl]; exact h7c
  refine mm_start pl_Sp (Nat.le_of_ble_eq_true rfl) ?_
  refine mm_B ok_Sp_pointsOf 0 13 (21, [some (.ref 1), some (.int (nI c)), some (.ref pa), none, none, none, none], [.ref pa, .int (g 7 ((nI c).toNatClampNeg)), .int (g 6 ((nI c).toNatClampNeg)), .int (nI c), .ref 1], (hp_SH ++ dy, g, r)) [vp_in (nI c) 6, vp_in (nI c) 6] rfl (show (vp_in (nI c) 6) ∧ (vp_in (nI c) 6) from ⟨(nI_vi (by omega) (by decide)), (nI_vi (by omega) (by decide))⟩) ?_
  rw [e6]
  rw [e7]
  refine mm_cV (as := [.int (nI c), .int (nI (K.2.1 c)), .int (nI (K.2.2.1 c)), .ref pa]) (st := []) (q := 1) cw_Sp_memoryOf lk_Sp_144 in_Sp_memoryOf sl_Sp_memoryOf rfl rfl (mm_at ok_Sp_pointsOf (i := 13) rfl).1 (ct_Sp_memoryOf dy g P r hP hR hL (by omega) hag (by omega) hoff hpa hpf hpl hpo) (by decide) ⟨by omega, by omega⟩ (Nat.le_of_ble_eq_true rfl) ⟨fun k hk => by simp only [List.mem_cons, Option.some.injEq, Value.ref.injEq, reduceCtorEq, List.not_mem_nil, or_false, false_or] at hk; rcases hk with rfl | rfl <;> first | exact hplt | exact Nat.lt_of_lt_of_le (by decide) (hp_len dy), (mm_vs_b (b := 77) (lv := []) rfl (hp_len dy)).2⟩ (fun v h' hqq => ?_)
  obtain ⟨rfl, g1, hqe, hF1⟩ := hqq; rw [hqe]
  obtain ⟨cs, hcs⟩ : ∃ cs, cs = sp_run T (sp_H C K.2.2.2 c) pl (K.2.1 c) (K.2.2.1 c) 6 := ⟨_, rfl⟩
  have hok : sp_ok cs := by rw [hcs]; exact sp_run_ok _ _ _ _ _ (Nat.le_refl _)
  have hle6 : ∀ l, l < T.1 → cs.2 l ≤ 5 + 1 := fun l hl => by rw [hcs]; exact (sp_run_le _ _ _ _ _ 6 l (by have := hL.2.1; omega)).2
  have ept : sp_pts T C K pl c = sp_sum (sp_pt T (sp_W C K.2.2.2 c) cs) T.1 := by unfold sp_pts; rw [hcs]
  rw [← hcs, ept]
  have hP1 := hF1.nr f1_nr hP
  refine mm_B ok_Sp_pointsOf 14 4 (28, [some (.ref 1), some (.int (nI c)), some (.ref pa), some (.int (nI (sp_enc cs))), none, none, none], [.int 5, .int (nI (sp_enc cs)), .ref 1], (hp_SH ++ dy, g1, r)) [] rfl trivial ?_
  refine mm_cV (as := [.int (nI (sp_enc cs)), .int 5]) (st := []) (q := 1) cw_Sp_owned lk_Sp_117 in_Sp_owned sl_Sp_owned rfl rfl (mm_at ok_Sp_pointsOf (i := 18) rfl).1 (ct_Sp_owned dy g1 P r hP1 hL hok (b := 5) (by decide) hle6) (by decide) ⟨by omega, by omega⟩ (Nat.le_of_ble_eq_true rfl) ⟨fun k hk => by simp only [List.mem_cons, Option.some.injEq, Value.ref.injEq, reduceCtorEq, List.not_mem_nil, or_false, false_or] at hk; rcases hk with rfl | rfl <;> first | exact hplt | exact Nat.lt_of_lt_of_le (by decide) (hp_len dy), (mm_vs_b (b := 77) (lv := []) rfl (hp_len dy)).2⟩ (fun v h' hqq => ?_)
  obtain ⟨rfl, hqe⟩ := hqq; rw [hqe]
  refine mm_B ok_Sp_pointsOf 19 5 (39, [some (.ref 1), some (.int (nI c)), some (.ref pa), some (.int (nI (sp_enc cs))), some (.int (nI (sp_has T cs.2 5))), some (.int 0), some (.int 0)], [], (hp_SH ++ dy, g1, r)) [] rfl trivial ?_
  have h8 := po_go dy g P r hP hR hL (by omega) hag hok hplt T.1 0 g1 (by omega) hF1
  exact h8

