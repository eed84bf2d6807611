/-! ===== SchoolOnRaft: parts of the answers ===== -/
noncomputable def sp_all (T : sp_T) (C : Nat → List Int32) (K : sp_K) (pl : Nat → Option Nat) : Nat := sp_sum (sp_pts T C K pl) K.1
noncomputable def sp_end (T : sp_T) (C : Nat → List Int32) (K : sp_K) (pl : Nat → Option Nat) (c : Nat) : Nat := sp_has T (sp_run T (sp_H C K.2.2.2 c) pl (K.2.1 c) (K.2.2.1 c) 6).2 5
theorem pa_go (dy : List mm_Sh) (g P : Nat → Nat → Int32) (r : (Nat → Nat → Int64) × Nat × (Nat → Int32)) (hP : nr_ g = P) {C : Nat → List Int32} (hR : rt_R dy P C) {T : sp_T} (hL : rl_L T P) {K : sp_K} (hK : rl_C K P) {pa : Nat} {pl : Nat → Option Nat} (hpa : (hp_SH ++ dy)[pa]? = some (.inl (0, 6))) (hpf : ∀ j, f1_ pa j = false) (hpl : ∀ b, b < 6 → g pa b = pl_c (pl b)) (hpo : ∀ b l, b < 6 → pl b = some l → l < T.1) : ∀ (m k : Nat) (g1 : Nat → Nat → Int32), k + m = K.1 → fr_ f1_ g g1 → mm_W 9 M_Sc_pointsOfAll 0 0 (fun v h' => v = some (.int (nI (sp_all T C K pl))) ∧ ∃ g', h' = (hp_SH ++ dy, g', r) ∧ fr_ f1_ g g') 0 0 (4, [some (.ref 0), some (.ref pa), some (.int (nI (sp_sum (sp_pts T C K pl) k))), some (.int (nI k))], [], (hp_SH ++ dy, g1, r)) := by
  have h6 := hK.2.1
  have hplt : pa < (hp_SH ++ dy).length := (List.getElem?_eq_some_iff.mp hpa).1
  intro m
  induction m with
  | zero =>
    intro k g1 hk hF
    have e21 : g1 2 1 = nI K.1 := by rw [nr_at (hF.nr f1_nr hP) 2 1 rfl]; exact hK.1
    refine mm_B ok_Sc_pointsOfAll 4 5 (15, [some (.ref 0), some (.ref pa), some (.int (nI (sp_sum (sp_pts T C K pl) k))), some (.int (nI k))], [.int (g1 2 1), .int (nI k)], (hp_SH ++ dy, g1, r)) [] rfl trivial ?_
    rw [e21]
    refine mm_I ok_Sc_pointsOfAll 9 0 15 [some (.ref 0), some (.ref pa), some (.int (nI (sp_sum (sp_pts T C K pl) k))), some (.int (nI k))] [.int (nI K.1), .int (nI k)] (hp_SH ++ dy, g1, r) [] rfl trivial rfl rfl (fun _ => ?_) (fun q => False.elim (q (nI_le (by omega) (by omega))))
    refine mm_B ok_Sc_pointsOfAll 20 1 (37, [some (.ref 0), some (.ref pa), some (.int (nI (sp_sum (sp_pts T C K pl) k))), some (.int (nI k))], [.int (nI (sp_sum (sp_pts T C K pl) k))], (hp_SH ++ dy, g1, r)) [] rfl trivial ?_
    exact mm_ri rfl (mm_at ok_Sc_pointsOfAll (i := 21) rfl).1 ⟨Nat.le_refl _, Nat.le_refl _⟩ (⟨by rw [show k = K.1 by omega]; rfl, g1, rfl, hF⟩)
  | succ m ih =>
    intro k g1 hk hF
    have hP1 := hF.nr f1_nr hP
    have e21 : g1 2 1 = nI K.1 := by rw [nr_at hP1 2 1 rfl]; exact hK.1
    refine mm_B ok_Sc_pointsOfAll 4 5 (15, [some (.ref 0), some (.ref pa), some (.int (nI (sp_sum (sp_pts T C K pl) k))), some (.int (nI k))], [.int (g1 2 1), .int (nI k)], (hp_SH ++ dy, g1, r)) [] rfl trivial ?_
    rw [e21]
    refine mm_I ok_Sc_pointsOfAll 9 0 15 [some (.ref 0), some (.ref pa), some (.int (nI (sp_sum (sp_pts T C K pl) k))), some (.int (nI k))] [.int (nI K.1), .int (nI k)] (hp_SH ++ dy, g1, r) [] rfl trivial rfl rfl (fun q => False.elim (nI_ge (show k < K.1 by omega) (by omega) q)) (fun _ => ?_)
    refine mm_B ok_Sc_pointsOfAll 10 5 (25, [some (.ref 0), some (.ref pa), some (.int (nI (sp_sum (sp_pts T C K pl) k))), some (.int (nI k))], [.ref pa, .int (nI k), .ref 1, .int (nI (sp_sum (sp_pts T C K pl) k))], (hp_SH ++ dy, g1, r)) [] rfl trivial ?_
    refine mm_cV (as := [.int (nI k), .ref pa]) (st := [.int (nI (sp_sum (sp_pts T C K pl) k))]) (q := 1) cw_Sp_pointsOf lk_Sc_192 in_Sp_pointsOf sl_Sp_pointsOf rfl rfl (mm_at ok_Sc_pointsOfAll (i := 15) rfl).1 (ct_Sp_pointsOf dy g1 P r hP1 hR hL hK (by omega) hpa hpf (fun b hb => by rw [hF pa b (hpf b)]; exact hpl b hb) hpo) (by decide) ⟨by omega, by omega⟩ (Nat.le_of_ble_eq_true rfl) ⟨fun k hk => by simp only [List.mem_cons, Option.some.injEq, Value.ref.injEq, reduceCtorEq, List.not_mem_nil, or_false, false_or] at hk; rcases hk with rfl | rfl <;> first | exact hplt | exact Nat.lt_of_lt_of_le (by decide) (hp_len dy), (mm_vs_b (b := 77) (lv := []) rfl (hp_len dy)).2⟩ (fun v h' hqq => ?_)
    obtain ⟨rfl, g2, hqe, hF2⟩ := hqq; rw [hqe]
    refine mm_B ok_Sc_pointsOfAll 16 4 (4, [some (.ref 0), some (.ref pa), some (.int ((nI (sp_sum (sp_pts T C K pl) k)) + (nI (sp_pts T C K pl k)))), some (.int ((nI k) + 1))], [], (hp_SH ++ dy, g2, r)) [] rfl trivial ?_
    rw [nI_1, nI_add]
    exact ih (k + 1) g2 (by omega) (hF.tr hF2)
theorem ct_Sc_pointsOfAll (dy : List mm_Sh) (g P : Nat → Nat → Int32) (r : (Nat → Nat → Int64) × Nat × (Nat → Int32)) (hP : nr_ g = P) {C : Nat → List Int32} (hR : rt_R dy P C) {T : sp_T} (hL : rl_L T P) {K : sp_K} (hK : rl_C K P) {pa : Nat} {pl : Nat → Option Nat} (hpa : (hp_SH ++ dy)[pa]? = some (.inl (0, 6))) (hpf : ∀ j, f1_ pa j = false) (hpl : ∀ b, b < 6 → g pa b = pl_c (pl b)) (hpo : ∀ b l, b < 6 → pl b = some l → l < T.1) : mm_Ct 9 M_Sc_pointsOfAll [.ref 0, .ref pa] (hp_SH ++ dy, g, r) 0 0 (fun v h' => v = some (.int (nI (sp_all T C K pl))) ∧ ∃ g', h' = (hp_SH ++ dy, g', r) ∧ fr_ f1_ g g') := by
  refine mm_start pl_Sc (Nat.le_of_ble_eq_true rfl) ?_
  refine mm_B ok_Sc_pointsOfAll 0 4 (4, [some (.ref 0), some (.ref pa), some (.int 0), some (.int 0)], [], (hp_SH ++ dy, g, r)) [] rfl trivial ?_
  exact pa_go dy g P r hP hR hL hK hpa hpf hpl hpo K.1 0 g (by omega) fr_.rf
theorem ct_Sc_ownedAtEnd (dy : List mm_Sh) (g P : Nat → Nat → Int32) (r : (Nat → Nat → Int64) × Nat × (Nat → Int32)) (hP : nr_ g = P) {C : Nat → List Int32} (hR : rt_R dy P C) {T : sp_T} (hL : rl_L T P) {K : sp_K} {c : Nat} (hK : rl_C K P) (hc : c < K.1) {pa : Nat} {pl : Nat → Option Nat} (hpa : (hp_SH ++ dy)[pa]? = some (.inl (0, 6))) (hpf : ∀ j, f1_ pa j = false) (hpl : ∀ b, b < 6 → g pa b = pl_c (pl b)) (hpo : ∀ b l, b < 6 → pl b = some l → l < T.1) : mm_Ct 8 M_Sc_ownedAtEnd [.ref 0, .int (nI c), .ref pa] (hp_SH ++ dy, g, r) 0 0 (fun v h' => v = some (.int (nI (sp_end T C K pl c))) ∧ ∃ g', h' = (hp_SH ++ dy, g', r) ∧ fr_ f1_ g g') := by
  obtain ⟨h21, h6, hcs⟩ := hK
  obtain ⟨h6c, h7c, hle, hoff, hag⟩ := hcs c hc
  have hplt : pa < (hp_SH ++ dy).length := (List.getElem?_eq_some_iff.mp hpa).1
  have e6 : g 6 (nI c).toNatClampNeg = nI (K.2.1 c) := by rw [nI_clamp (by omega), nr_at hP 6 c rfl]; exact h6c
  have e7 : g 7 (nI c).toNatClampNeg = nI (K.2.2.1 c) := by rw [nI_clamp (by omega), nr_at hP 7 c rfl]; exact h7c
  refine mm_start pl_Sc (Nat.le_of_ble_eq_true rfl) ?_
  refine mm_B ok_Sc_ownedAtEnd 0 16 (30, [some (.ref 0), some (.int (nI c)), some (.ref pa), none], [.ref pa, .int (g 7 ((nI c).toNatClampNeg)), .int (g 6 ((nI c).toNatClampNeg)), .int (nI c), .ref 1], (hp_SH ++ dy, g, r)) [vp_in (nI c) 6, vp_in (nI c) 6] rfl (show (vp_in (nI c) 6) ∧ (vp_in (nI c) 6) from ⟨(nI_vi (by omega) (by decide)), (nI_vi (by omega) (by decide))⟩) ?_
  rw [e6]
  rw [e7]
  refine mm_cV (as := [.int (nI c), .int (nI (K.2.1 c)), .int (nI (K.2.2.1 c)), .ref pa]) (st := []) (q := 1) cw_Sp_memoryOf lk_Sc_178 in_Sp_memoryOf sl_Sp_memoryOf rfl rfl (mm_at ok_Sc_ownedAtEnd (i := 16) rfl).1 (ct_Sp_memoryOf dy g P r hP hR hL (by omega) hag (by omega) hoff hpa hpf hpl hpo) (by decide) ⟨by omega, by omega⟩ (Nat.le_of_ble_eq_true rfl) ⟨fun k hk => by simp only [List.mem_cons, Option.some.injEq, Value.ref.injEq, reduceCtorEq, List.not_mem_nil, or_false, false_or] at hk; rcases hk with rfl | rfl <;> first | exact hplt | exact Nat.lt_of_lt_of_le (by decide) (hp_len dy), (mm_vs_b (b := 77) (lv := []) rfl (hp_len dy)).2⟩ (fun v h' hqq => ?_)
  obtain ⟨rfl, g1, hqe, hF1⟩ := hqq; rw [hqe]
  refine mm_B ok_Sc_ownedAtEnd 17 5 (40, [some (.ref 0), some (.int (nI c)), some (.ref pa), some (.int (nI (sp_enc (sp_run T (sp_H C K.2.2.2 c) pl (K.2.1 c) (K.2.2.1 c) 6))))], [.int 5, .int (nI (sp_enc (sp_run T (sp_H C K.2.2.2 c) pl (K.2.1 c) (K.2.2.1 c) 6))), .ref 1], (hp_SH ++ dy, g1, r)) [] rfl trivial ?_
  refine mm_cV (as := [.int (nI (sp_enc (sp_run T (sp_H C K.2.2.2 c) pl (K.2.1 c) (K.2.2.1 c) 6))), .int 5]) (st := []) (q := 1) cw_Sp_owned lk_Sc_212 in_Sp_owned sl_Sp_owned rfl rfl (mm_at ok_Sc_ownedAtEnd (i := 22) rfl).1 (ct_Sp_owned dy g1 P r (hF1.nr f1_nr hP) hL (sp_run_ok _ _ _ _ _ (Nat.le_refl _)) (b := 5) (by decide) (fun l hl => (sp_run_le _ _ _ _ _ 6 l (by have := hL.2.1; omega)).2)) (by decide) ⟨by omega, by omega⟩ (Nat.le_of_ble_eq_true rfl) ⟨fun k hk => by simp only [List.mem_cons, Option.some.injEq, Value.ref.injEq, reduceCtorEq, List.not_mem_nil, or_false, false_or] at hk; rcases hk with rfl | rfl <;> first | exact hplt | exact Nat.lt_of_lt_of_le (by decide) (hp_len dy), (mm_vs_b (b := 77) (lv := []) rfl (hp_len dy)).2⟩ (fun v h' hqq => ?_)
  obtain ⟨rfl, hqe⟩ := hqq; rw [hqe]
  exact mm_ri rfl (mm_at ok_Sc_ownedAtEnd (i := 23) rfl).1 ⟨Nat.le_refl _, Nat.le_refl _⟩ (⟨rfl, g1, rfl, hF1⟩)
/-- who has a lesson at the end, as bits -/
noncomputable def sp_whb (T : sp_T) (C : Nat → List Int32) (K : sp_K) (pl : Nat → Option Nat) (l c : Nat) : Nat := if sp_end T C K pl c / 2 ^ l % 2 = 0 then 0 else 2 ^ c
theorem bt_bit6 : ∀ n, n < 6 → ∀ m, m < 2 ^ n → nI m ||| (1 <<< (nI n &&& 31)) = nI (m + 2 ^ n) := by decide
theorem sp_sum_lt (f : Nat → Nat) (hf : ∀ c, f c = 0 ∨ f c = 2 ^ c) : ∀ n, sp_sum f n < 2 ^ n
  | 0 => by simp [sp_sum]
  | n + 1 => by
    have := sp_sum_lt f hf n
    simp only [sp_sum]
    have h2 : 2 ^ (n + 1) = 2 ^ n + 2 ^ n := by rw [Nat.pow_succ]; omega
    rcases hf n with h | h <;> omega
theorem sp_whb_or {T : sp_T} {C : Nat → List Int32} {K : sp_K} {pl : Nat → Option Nat} {l : Nat} : ∀ c, sp_whb T C K pl l c = 0 ∨ sp_whb T C K pl l c = 2 ^ c := by
  intro c
  unfold sp_whb
  split
  · exact Or.inl rfl
  · exact Or.inr rfl
theorem wh_go (dy : List mm_Sh) (g P : Nat → Nat → Int32) (r : (Nat → Nat → Int64) × Nat × (Nat → Int32)) (hP : nr_ g = P) {C : Nat → List Int32} (hR : rt_R dy P C) {T : sp_T} (hL : rl_L T P) {K : sp_K} {l : Nat} (hK : rl_C K P) (hl : l < T.1) {pa : Nat} {pl : Nat → Option Nat} (hpa : (hp_SH ++ dy)[pa]? = some (.inl (0, 6))) (hpf : ∀ j, f1_ pa j = false) (hpl : ∀ b, b < 6 → g pa b = pl_c (pl b)) (hpo : ∀ b l, b < 6 → pl b = some l → l < T.1) : ∀ (m k : Nat) (g1 : Nat → Nat → Int32), k + m = K.1 → fr_ f1_ g g1 → mm_W 9 M_Sc_whoHave 0 0 (fun v h' => v = some (.int (nI (sp_sum (sp_whb T C K pl l) K.1))) ∧ ∃ g', h' = (hp_SH ++ dy, g', r) ∧ fr_ f1_ g g') 0 0 (5, [some (.ref 0), some (.int (nI l)), some (.ref pa), some (.int (nI (sp_sum (sp_whb T C K pl l) k))), some (.int (nI k))], [], (hp_SH ++ dy, g1, r)) := by
  have h6 := hK.2.1
  have h4 := hL.2.1
  have hplt : pa < (hp_SH ++ dy).length := (List.getElem?_eq_some_iff.mp hpa).1
  intro m
  induction m with
  | zero =>
    intro k g1 hk hF
    have e21 : g1 2 1 = nI K.1 := by rw [nr_at (hF.nr f1_nr hP) 2 1 rfl]; exact hK.1
    refine mm_B ok_Sc_whoHave 4 5 (17, [some (.ref 0), some (.int (nI l)), some (.ref pa), some (.int (nI (sp_sum (sp_whb T C K pl l) k))), some (.int (nI k))], [.int (g1 2 1), .int (nI k)], (hp_SH ++ dy, g1, r)) [] rfl trivial ?_
    rw [e21]
    refine mm_I ok_Sc_whoHave 9 0 17 [some (.ref 0), some (.int (nI l)), some (.ref pa), some (.int (nI (sp_sum (sp_whb T C K pl l) k))), some (.int (nI k))] [.int (nI K.1), .int (nI k)] (hp_SH ++ dy, g1, r) [] rfl trivial rfl rfl (fun _ => ?_) (fun q => False.elim (q (nI_le (by omega) (by omega))))
    refine mm_B ok_Sc_whoHave 27 1 (48, [some (.ref 0), some (.int (nI l)), some (.ref pa), some (.int (nI (sp_sum (sp_whb T C K pl l) k))), some (.int (nI k))], [.int (nI (sp_sum (sp_whb T C K pl l) k))], (hp_SH ++ dy, g1, r)) [] rfl trivial ?_
    exact mm_ri rfl (mm_at ok_Sc_whoHave (i := 28) rfl).1 ⟨Nat.le_refl _, Nat.le_refl _⟩ (⟨by rw [show k = K.1 by omega], g1, rfl, hF⟩)
  | succ m ih =>
    intro k g1 hk hF
    have hP1 := hF.nr f1_nr hP
    have e21 : g1 2 1 = nI K.1 := by rw [nr_at hP1 2 1 rfl]; exact hK.1
    have hh : sp_end T C K pl k < 16 := sp_has_lt _ _ _ h4
    refine mm_B ok_Sc_whoHave 4 5 (17, [some (.ref 0), some (.int (nI l)), some (.ref pa), some (.int (nI (sp_sum (sp_whb T C K pl l) k))), some (.int (nI k))], [.int (g1 2 1), .int (nI k)], (hp_SH ++ dy, g1, r)) [] rfl trivial ?_
    rw [e21]
    refine mm_I ok_Sc_whoHave 9 0 17 [some (.ref 0), some (.int (nI l)), some (.ref pa), some (.int (nI (sp_sum (sp_whb T C K pl l) k))), some (.int (nI k))] [.int (nI K.1), .int (nI k)] (hp_SH ++ dy, g1, r) [] rfl trivial rfl rfl (fun q => False.elim (nI_ge (show k < K.1 by omega) (by omega) q)) (fun _ => ?_)
    refine mm_B ok_Sc_whoHave 10 3 (24, [some (.ref 0), some (.int (nI l)), some (.ref pa), some (.int (nI (sp_sum (sp_whb T C K pl l) k))), some (.int (nI k))], [.ref pa, .int (nI k), .ref 0], (hp_SH ++ dy, g1, r)) [] rfl trivial ?_
    refine mm_cV (as := [.int (nI k), .ref pa]) (st := []) (q := 0) cw_Sc_ownedAtEnd lk_Sc_231 in_Sc_ownedAtEnd sl_Sc_ownedAtEnd rfl rfl (mm_at ok_Sc_whoHave (i := 13) rfl).1 (ct_Sc_ownedAtEnd dy g1 P r hP1 hR hL hK (by omega) hpa hpf (fun b hb => by rw [hF pa b (hpf b)]; exact hpl b hb) hpo) (by decide) ⟨by omega, by omega⟩ (Nat.le_of_ble_eq_true rfl) ⟨fun k hk => by simp only [List.mem_cons, Option.some.injEq, Value.ref.injEq, reduceCtorEq, List.not_mem_nil, or_false, false_or] at hk; rcases hk with rfl | rfl <;> first | exact hplt | exact Nat.lt_of_lt_of_le (by decide) (hp_len dy), (mm_vs_b (b := 77) (lv := []) rfl (hp_len dy)).2⟩ (fun v h' hqq => ?_)
    obtain ⟨rfl, g2, hqe, hF2⟩ := hqq; rw [hqe]
    refine mm_B ok_Sc_whoHave 14 4 (31, [some (.ref 0), some (.int (nI l)), some (.ref pa), some (.int (nI (sp_sum (sp_whb T C K pl l) k))), some (.int (nI k))], [.int (((nI (sp_end T C K pl k)) >>> ((nI l) &&& 31)) &&& 1)], (hp_SH ++ dy, g2, r)) [] rfl trivial ?_
    rw [bt_tst _ hh _ (show l < 4 by omega)]
    refine mm_I ok_Sc_whoHave 18 0 31 [some (.ref 0), some (.int (nI l)), some (.ref pa), some (.int (nI (sp_sum (sp_whb T C K pl l) k))), some (.int (nI k))] [.int (nI (sp_end T C K pl k / 2 ^ l % 2))] (hp_SH ++ dy, g2, r) [] rfl trivial rfl rfl (fun hz => ?_) (fun hz => ?_)
    · have hz : sp_end T C K pl k / 2 ^ l % 2 = 0 := by
        rcases Nat.eq_zero_or_pos (sp_end T C K pl k / 2 ^ l % 2) with h | h
        · exact h
        · exact absurd hz (nI_ne0 h (by omega))
      refine mm_B ok_Sc_whoHave 25 2 (5, [some (.ref 0), some (.int (nI l)), some (.ref pa), some (.int (nI (sp_sum (sp_whb T C K pl l) k))), some (.int ((nI k) + 1))], [], (hp_SH ++ dy, g2, r)) [] rfl trivial ?_
      rw [nI_1]
      have hn : sp_sum (sp_whb T C K pl l) (k + 1) = sp_sum (sp_whb T C K pl l) k := by simp only [sp_sum, sp_whb]; rw [if_pos hz]; omega
      have h8 := ih (k + 1) g2 (by omega) (hF.tr hF2)
      rw [hn] at h8
      exact h8
    · have hz : ¬ sp_end T C K pl k / 2 ^ l % 2 = 0 := fun q => hz (by rw [q]; rfl)
      refine mm_B ok_Sc_whoHave 19 8 (5, [some (.ref 0), some (.int (nI l)), some (.ref pa), some (.int ((nI (sp_sum (sp_whb T C K pl l) k)) ||| (1 <<< ((nI k) &&& 31)))), some (.int ((nI k) + 1))], [], (hp_SH ++ dy, g2, r)) [] rfl trivial ?_
      rw [nI_1, bt_bit6 k (by omega) _ (sp_sum_lt _ sp_whb_or k)]
      have hn : sp_sum (sp_whb T C K pl l) (k + 1) = sp_sum (sp_whb T C K pl l) k + 2 ^ k := by simp only [sp_sum]; rw [show sp_whb T C K pl l k = 2 ^ k from if_neg hz]
      have h8 := ih (k + 1) g2 (by omega) (hF.tr hF2)
      rw [hn] at h8
      exact h8
theorem ct_Sc_whoHave (dy : List mm_Sh) (g P : Nat → Nat → Int32) (r : (Nat → Nat → Int64) × Nat × (Nat → Int32)) (hP : nr_ g = P) {C : Nat → List Int32} (hR : rt_R dy P C) {T : sp_T} (hL : rl_L T P) {K : sp_K} {l : Nat} (hK : rl_C K P) (hl : l < T.1) {pa : Nat} {pl : Nat → Option Nat} (hpa : (hp_SH ++ dy)[pa]? = some (.inl (0, 6))) (hpf : ∀ j, f1_ pa j = false) (hpl : ∀ b, b < 6 → g pa b = pl_c (pl b)) (hpo : ∀ b l, b < 6 → pl b = some l → l < T.1) : mm_Ct 9 M_Sc_whoHave [.ref 0, .int (nI l), .ref pa] (hp_SH ++ dy, g, r) 0 0 (fun v h' => v = some (.int (nI (sp_sum (sp_whb T C K pl l) K.1))) ∧ ∃ g', h' = (hp_SH ++ dy, g', r) ∧ fr_ f1_ g g') := by
  refine mm_start pl_Sc (Nat.le_of_ble_eq_true rfl) ?_
  refine mm_B ok_Sc_whoHave 0 4 (5, [some (.ref 0), some (.int (nI l)), some (.ref pa), some (.int 0), some (.int 0)], [], (hp_SH ++ dy, g, r)) [] rfl trivial ?_
  exact wh_go dy g P r hP hR hL hK hl hpa hpf hpl hpo K.1 0 g (by omega) fr_.rf

