/-! ===== the model: endPoints, takesPlan, pointsBy, allPoints, changeAt, unlike, allHave, floods ===== -/
theorem wi_cl (w : Int32) : f_Mo_within w (-99) 99 = cl_ w := by
  apply Int32.toInt_inj.mp
  rw [cl_toInt]
  unfold f_Mo_within
  have h1 : (-99 : Int32).toInt = -99 := rfl
  have h2 : (99 : Int32).toInt = 99 := rfl
  simp only [Int32.le_iff_toInt_le, h1, h2]
  repeat' split
  all_goals simp only [h1, h2] at *
  all_goals omega
theorem gn_m {v : Nat} {w : Int32} (hv : v ≤ 100) : (0 ≤ nI v + f_Mo_within w (-99) 99 → nI v + f_Mo_within w (-99) 99 = nI (sp_gn v w)) ∧ (¬ 0 ≤ nI v + f_Mo_within w (-99) 99 → sp_gn v w = 0) := by
  rw [wi_cl]
  have h := gn_eq hv w
  have hg : sp_gn v w < 1000 := by unfold sp_gn; omega
  generalize nI v + cl_ w = s at h ⊢
  refine ⟨fun h0 => ?_, fun h0 => ?_⟩
  · by_cases h1 : 0 < s
    · rw [if_pos h1] at h; exact h
    · rw [if_neg h1] at h
      have : s = 0 := Int32.le_antisymm (Int32.not_lt.mp h1) h0
      rw [this]; exact h
  · rw [if_neg (fun h1 => h0 (Int32.le_of_lt h1))] at h
    exact ((nI_eq (b := 0) (by omega) (by decide)).mp (h.symm.trans rfl))
def sp_ok6 (c : sp_C) : Prop := ∀ i, i < 4 → c.1 i ≤ 6 ∧ c.2 i ≤ 6
theorem ep_go (dy : List mm_Sh) (g P : Nat → Nat → Int32) (r : (Nat → Nat → Int64) × Nat × (Nat → Int32)) (hP : nr_ g = P) {C : Nat → List Int32} (hR : rt_M P C) {T : sp_T} (hL : rl_LM T P) {ag : Nat → Nat} {c : Nat} {cs : sp_C} (hc : c < 6) (hag : P 61 c = nI (ag c)) (hcs : sp_ok6 cs) : ∀ (m k : Nat) (g1 : Nat → Nat → Int32) (r1 : (Nat → Nat → Int64) × Nat × (Nat → Int32)), k + m = T.1 → r1.2 = r.2 → fr_ mu_ g g1 → (∀ i, g1 63 i = g 63 i) → nw_ C ag g1 → rw_ g1 6 cs → mm_W 58 M_Mo_endPoints 0 0 (fun v h' => v = some (.int (nI (sp_sum (sp_pt T (sp_W C ag c) cs) T.1))) ∧ ∃ g' r', h' = (hp_SH ++ dy, g', r') ∧ r'.2 = r.2 ∧ fr_ mu_ g g' ∧ (∀ i, g' 63 i = g 63 i) ∧ nw_ C ag g') 0 0 (13, [some (.ref 52), some (.int (nI c)), some (.int (nI (sp_has T cs.2 5))), some (.int (nI (sp_sum (sp_pt T (sp_W C ag c) cs) k))), some (.int (nI k)), none], [], (hp_SH ++ dy, g1, r1)) := by
  have h4 := hL.2.1
  have hh := sp_has_lt T cs.2 5 h4
  intro m
  induction m with
  | zero =>
    intro k g1 r1 hk hr hF h63 hnw hrw
    have hk : k = T.1 := hk
    have e10 : g1 52 10 = nI T.1 := by rw [nr_at (hF.nr mu_nr hP) 52 10 rfl]; exact hL.1
    refine mm_B ok_Mo_endPoints 9 3 (19, [some (.ref 52), some (.int (nI c)), some (.int (nI (sp_has T cs.2 5))), some (.int (nI (sp_sum (sp_pt T (sp_W C ag c) cs) k))), some (.int (nI k)), none], [.int (g1 52 10), .int (nI k)], (hp_SH ++ dy, g1, r1)) [] rfl trivial ?_
    rw [e10]
    refine mm_I ok_Mo_endPoints 12 0 19 [some (.ref 52), some (.int (nI c)), some (.int (nI (sp_has T cs.2 5))), some (.int (nI (sp_sum (sp_pt T (sp_W C ag c) cs) k))), some (.int (nI k)), none] [.int (nI T.1), .int (nI k)] (hp_SH ++ dy, g1, r1) [] rfl trivial rfl rfl (fun _ => ?_) (fun q => False.elim (q (nI_le (by omega) (by omega))))
    refine mm_B ok_Mo_endPoints 47 1 (83, [some (.ref 52), some (.int (nI c)), some (.int (nI (sp_has T cs.2 5))), some (.int (nI (sp_sum (sp_pt T (sp_W C ag c) cs) k))), some (.int (nI k)), none], [.int (nI (sp_sum (sp_pt T (sp_W C ag c) cs) k))], (hp_SH ++ dy, g1, r1)) [] rfl trivial ?_
    exact mm_ri rfl (mm_at ok_Mo_endPoints (i := 48) rfl).1 ⟨Nat.le_refl _, Nat.le_refl _⟩ (⟨by rw [hk], g1, r1, rfl, hr, hF, h63, hnw⟩)
  | succ m ih =>
    intro k g1 r1 hk hr hF h63 hnw hrw
    have hkT : k < T.1 := by omega
    have hP1 := hF.nr mu_nr hP
    have e10 : g1 52 10 = nI T.1 := by rw [nr_at hP1 52 10 rfl]; exact hL.1
    refine mm_B ok_Mo_endPoints 9 3 (19, [some (.ref 52), some (.int (nI c)), some (.int (nI (sp_has T cs.2 5))), some (.int (nI (sp_sum (sp_pt T (sp_W C ag c) cs) k))), some (.int (nI k)), none], [.int (g1 52 10), .int (nI k)], (hp_SH ++ dy, g1, r1)) [] rfl trivial ?_
    rw [e10]
    refine mm_I ok_Mo_endPoints 12 0 19 [some (.ref 52), some (.int (nI c)), some (.int (nI (sp_has T cs.2 5))), some (.int (nI (sp_sum (sp_pt T (sp_W C ag c) cs) k))), some (.int (nI k)), none] [.int (nI T.1), .int (nI k)] (hp_SH ++ dy, g1, r1) [] rfl trivial rfl rfl (fun q => False.elim (nI_ge hkT (by omega) q)) (fun _ => ?_)
    refine mm_B ok_Mo_endPoints 13 6 (29, [some (.ref 52), some (.int (nI c)), some (.int (nI (sp_has T cs.2 5))), some (.int (nI (sp_sum (sp_pt T (sp_W C ag c) cs) k))), some (.int (nI k)), none], [.int 1, .int (((nI (sp_has T cs.2 5)) >>> ((nI k) &&& 31)) &&& 1)], (hp_SH ++ dy, g1, r1)) [] rfl trivial ?_
    rw [bt_tst _ hh _ (show k < 4 by omega)]
    by_cases hz : sp_has T cs.2 5 / 2 ^ k % 2 = 0
    · refine mm_I ok_Mo_endPoints 19 0 29 [some (.ref 52), some (.int (nI c)), some (.int (nI (sp_has T cs.2 5))), some (.int (nI (sp_sum (sp_pt T (sp_W C ag c) cs) k))), some (.int (nI k)), none] [.int 1, .int (nI (sp_has T cs.2 5 / 2 ^ k % 2))] (hp_SH ++ dy, g1, r1) [] rfl trivial rfl rfl (fun _ => ?_) (fun q => False.elim (absurd (show nI 0 = nI 1 by rw [← hz]; exact q) (by decide)))
      refine mm_B ok_Mo_endPoints 45 2 (13, [some (.ref 52), some (.int (nI c)), some (.int (nI (sp_has T cs.2 5))), some (.int (nI (sp_sum (sp_pt T (sp_W C ag c) cs) k))), some (.int ((nI k) + 1)), none], [], (hp_SH ++ dy, g1, r1)) [] rfl trivial ?_
      rw [nI_1]
      have hn : sp_sum (sp_pt T (sp_W C ag c) cs) (k + 1) = sp_sum (sp_pt T (sp_W C ag c) cs) k := by simp only [sp_sum, sp_pt]; rw [if_pos hz]; omega
      have h8 := ih (k + 1) g1 r1 (by omega) hr hF h63 hnw hrw
      rw [hn] at h8
      exact h8
    · have hz1 : sp_has T cs.2 5 / 2 ^ k % 2 = 1 := by omega
      have hvl : sp_value T k ≤ 100 := sp_vl_le _ _ (by have := (hL.2.2 k hkT).2.2.2.1; omega)
      have hcsk := hcs k (by omega)
      refine mm_I ok_Mo_endPoints 19 0 29 [some (.ref 52), some (.int (nI c)), some (.int (nI (sp_has T cs.2 5))), some (.int (nI (sp_sum (sp_pt T (sp_W C ag c) cs) k))), some (.int (nI k)), none] [.int 1, .int (nI (sp_has T cs.2 5 / 2 ^ k % 2))] (hp_SH ++ dy, g1, r1) [] rfl trivial rfl rfl (fun q => False.elim (q (by rw [hz1]; rfl))) (fun _ => ?_)
      refine mm_B ok_Mo_endPoints 20 2 (35, [some (.ref 52), some (.int (nI c)), some (.int (nI (sp_has T cs.2 5))), some (.int (nI (sp_sum (sp_pt T (sp_W C ag c) cs) k))), some (.int (nI k)), none], [.int (nI k), .ref 52], (hp_SH ++ dy, g1, r1)) [] rfl trivial ?_
      refine mm_cV (as := [.int (nI k)]) (st := []) (q := 52) cw_Mo_pointsOf lk_Mo_130 in_Mo_pointsOf sl_Mo_pointsOf rfl rfl (mm_at ok_Mo_endPoints (i := 22) rfl).1 (ct_Mo_pointsOf dy g1 r1 (nI k) (nI_vi (by omega) (by decide))) (by decide) ⟨by omega, by omega⟩ (Nat.le_of_ble_eq_true rfl) (mm_vs_b (b := 77) rfl (hp_len dy)) (fun v h' hqq => ?_)
      obtain ⟨rfl, hqe⟩ := hqq; rw [hqe]
      rw [me_vl hP1 hL hkT]
      refine mm_B ok_Mo_endPoints 23 4 (43, [some (.ref 52), some (.int (nI c)), some (.int (nI (sp_has T cs.2 5))), some (.int (nI (sp_sum (sp_pt T (sp_W C ag c) cs) k))), some (.int (nI k)), none], [.int (nI (sp_has T cs.2 5)), .int (nI k), .int (nI c), .ref 52, .int (nI (sp_value T k))], (hp_SH ++ dy, g1, r1)) [] rfl trivial ?_
      refine mm_cS (as := [.int (nI (sp_has T cs.2 5))]) (st := [.int (nI k), .int (nI c), .ref 52, .int (nI (sp_value T k))]) cw_Mo_bitsOf lk_Mo_270 sx_Mo_bitsOf (mm_at ok_Mo_endPoints (i := 27) rfl).1 (ct_Mo_bitsOf (hp_SH ++ dy, g1, r1) (v := sp_has T cs.2 5) (by omega)) (by decide) ⟨by omega, by omega⟩ (Nat.le_of_ble_eq_true rfl) (mm_vs_b (b := 77) rfl (hp_len dy)) (fun v h' hqq => ?_)
      obtain ⟨rfl, hqe⟩ := hqq; rw [hqe, p6_pc _ hh]
      refine mm_B ok_Mo_endPoints 28 6 (56, [some (.ref 52), some (.int (nI c)), some (.int (nI (sp_has T cs.2 5))), some (.int (nI (sp_sum (sp_pt T (sp_W C ag c) cs) k))), some (.int (nI k)), none], [.int (g1 65 ((24 + (nI k)).toNatClampNeg)), .int (nI (sp_pc (sp_has T cs.2 5))), .int (nI k), .int (nI c), .ref 52, .int (nI (sp_value T k))], (hp_SH ++ dy, g1, r1)) [vp_in (24 + (nI k)) 28] rfl (show vp_in (24 + (nI k)) 28 from (by rw [show (24 : Int32) + nI k = nI (24 + k) from nI_add 24 k]; exact nI_vi (by omega) (by decide))) ?_
      rw [show (24 : Int32) + nI k = nI (24 + k) from nI_add 24 k, nI_clamp (show 24 + k < 2 ^ 31 by omega), (hrw k (by omega)).1]
      refine mm_cV (as := [.int (nI c), .int (nI k), .int (nI (sp_pc (sp_has T cs.2 5))), .int (nI (cs.1 k))]) (st := [.int (nI (sp_value T k))]) (q := 52) cw_Mo_worth lk_Mo_284 in_Mo_worth sl_Mo_worth rfl rfl (mm_at ok_Mo_endPoints (i := 34) rfl).1 (ct_Mo_worth dy g1 P r1 hP1 hR (ag := ag) (c := c) (l := k) (k := sp_pc (sp_has T cs.2 5)) (o := cs.1 k) hnw hc (by omega) (sp_pc_lt _ hh) (by omega) hag) (by decide) ⟨by omega, by omega⟩ (Nat.le_of_ble_eq_true rfl) (mm_vs_b (b := 77) rfl (hp_len dy)) (fun v h' hqq => ?_)
      obtain ⟨rfl, g2, r2, hqe, hr2, hF2, h263, hnw2⟩ := hqq; rw [hqe]
      have hgm := gn_m (w := sp_W C ag c k (sp_pc (sp_has T cs.2 5)) (cs.1 k)) hvl
      have hn : sp_sum (sp_pt T (sp_W C ag c) cs) (k + 1) = sp_sum (sp_pt T (sp_W C ag c) cs) k + sp_gn (sp_value T k) (sp_W C ag c k (sp_pc (sp_has T cs.2 5)) (cs.1 k)) := by simp only [sp_sum]; rw [show sp_pt T (sp_W C ag c) cs k = _ from if_neg hz]
      have h8 := ih (k + 1) g2 r2 (by omega) (hr2.trans hr) (hF.tr hF2) (fun i => (h263 i).trans (h63 i)) hnw2 (fun i hi => by rw [hF2 65 _ rfl, hF2 66 _ rfl]; exact hrw i hi)
      rw [hn] at h8
      refine mm_I ok_Mo_endPoints 35 4 65 [some (.ref 52), some (.int (nI c)), some (.int (nI (sp_has T cs.2 5))), some (.int (nI (sp_sum (sp_pt T (sp_W C ag c) cs) k))), some (.int (nI k)), some (.int ((nI (sp_value T k)) + (f_Mo_within (sp_W C ag c k (sp_pc (sp_has T cs.2 5)) (cs.1 k)) (-99) 99)))] [.int ((nI (sp_value T k)) + (f_Mo_within (sp_W C ag c k (sp_pc (sp_has T cs.2 5)) (cs.1 k)) (-99) 99)), .int (nI (sp_sum (sp_pt T (sp_W C ag c) cs) k))] (hp_SH ++ dy, g2, r2) [] rfl trivial rfl rfl (fun c1 => ?_) (fun c1 => ?_)
      · rw [hgm.1 c1]
        refine mm_B ok_Mo_endPoints 42 5 (13, [some (.ref 52), some (.int (nI c)), some (.int (nI (sp_has T cs.2 5))), some (.int ((nI (sp_sum (sp_pt T (sp_W C ag c) cs) k)) + (nI (sp_gn (sp_value T k) (sp_W C ag c k (sp_pc (sp_has T cs.2 5)) (cs.1 k)))))), some (.int ((nI k) + 1)), some (.int (nI (sp_gn (sp_value T k) (sp_W C ag c k (sp_pc (sp_has T cs.2 5)) (cs.1 k)))))], [], (hp_SH ++ dy, g2, r2)) [] rfl trivial ?_
        rw [nI_1, nI_add]
        refine mm_fg [5] ?_
        exact h8
      · refine mm_B ok_Mo_endPoints 40 2 (74, [some (.ref 52), some (.int (nI c)), some (.int (nI (sp_has T cs.2 5))), some (.int (nI (sp_sum (sp_pt T (sp_W C ag c) cs) k))), some (.int (nI k)), some (.int ((nI (sp_value T k)) + (f_Mo_within (sp_W C ag c k (sp_pc (sp_has T cs.2 5)) (cs.1 k)) (-99) 99)))], [.int 0, .int (nI (sp_sum (sp_pt T (sp_W C ag c) cs) k))], (hp_SH ++ dy, g2, r2)) [] rfl trivial ?_
        refine mm_B ok_Mo_endPoints 43 4 (13, [some (.ref 52), some (.int (nI c)), some (.int (nI (sp_has T cs.2 5))), some (.int ((nI (sp_sum (sp_pt T (sp_W C ag c) cs) k)) + 0)), some (.int ((nI k) + 1)), some (.int ((nI (sp_value T k)) + (f_Mo_within (sp_W C ag c k (sp_pc (sp_has T cs.2 5)) (cs.1 k)) (-99) 99)))], [], (hp_SH ++ dy, g2, r2)) [] rfl trivial ?_
        rw [nI_1]
        refine mm_fg [5] ?_
        rw [hgm.2 c1] at h8
        rw [show nI (sp_sum (sp_pt T (sp_W C ag c) cs) k) + 0 = nI (sp_sum (sp_pt T (sp_W C ag c) cs) k + 0) from nI_add _ 0]
        exact h8
theorem ct_Mo_endPoints (dy : List mm_Sh) (g P : Nat → Nat → Int32) (r : (Nat → Nat → Int64) × Nat × (Nat → Int32)) (hP : nr_ g = P) {C : Nat → List Int32} (hR : rt_M P C) {T : sp_T} (hL : rl_LM T P) {ag : Nat → Nat} {c : Nat} {cs : sp_C} (hc : c < 6) (hag : P 61 c = nI (ag c)) (hcs : sp_ok6 cs) (hnw : nw_ C ag g) (hrw : rw_ g 6 cs) : mm_Ct 58 M_Mo_endPoints [.ref 52, .int (nI c)] (hp_SH ++ dy, g, r) 0 0 (fun v h' => v = some (.int (nI (sp_sum (sp_pt T (sp_W C ag c) cs) T.1))) ∧ ∃ g' r', h' = (hp_SH ++ dy, g', r') ∧ r'.2 = r.2 ∧ fr_ mu_ g g' ∧ (∀ i, g' 63 i = g 63 i) ∧ nw_ C ag g') := by
  refine mm_start pl_Mo (Nat.le_of_ble_eq_true rfl) ?_
  refine mm_B ok_Mo_endPoints 0 3 (4, [some (.ref 52), some (.int (nI c)), none, none, none, none], [.int 5, .int 6, .ref 52], (hp_SH ++ dy, g, r)) [] rfl trivial ?_
  refine mm_cV (as := [.int 6, .int 5]) (st := []) (q := 52) cw_Mo_hasBy lk_Mo_267 in_Mo_hasBy sl_Mo_hasBy rfl rfl (mm_at ok_Mo_endPoints (i := 3) rfl).1 (ct_Mo_hasBy dy g P r hP hL (t := cs.2) (a := 6) (b := 5) (by decide) (by decide) (fun i hi => ⟨by have := hcs i (by have := hL.2.1; omega); omega, by have := hcs i (by have := hL.2.1; omega); omega, (hrw i (by have := hL.2.1; omega)).2⟩)) (by decide) ⟨by omega, by omega⟩ (Nat.le_of_ble_eq_true rfl) (mm_vs_b (b := 77) rfl (hp_len dy)) (fun v h' hqq => ?_)
  obtain ⟨rfl, hqe⟩ := hqq; rw [hqe]
  refine mm_B ok_Mo_endPoints 4 5 (13, [some (.ref 52), some (.int (nI c)), some (.int (nI (sp_has T cs.2 5))), some (.int 0), some (.int 0), none], [], (hp_SH ++ dy, g, r)) [] rfl trivial ?_
  exact ep_go dy g P r hP hR hL hc hag hcs T.1 0 g r (Nat.zero_add _) rfl fr_.rf (fun _ => rfl) hnw hrw
def rl_CM (K : sp_K) (P : Nat → Nat → Int32) : Prop := P 52 14 = nI K.1 ∧ K.1 ≤ 6 ∧ ∀ c, c < K.1 → P 59 c = nI (K.2.1 c) ∧ P 60 c = nI (K.2.2.1 c) ∧ K.2.1 c ≤ K.2.2.1 c ∧ K.2.2.1 c ≤ 5 ∧ P 61 c = nI (K.2.2.2 c)
theorem mp_mu' : ∀ k j, mp_ k j = false → mu_ k j = false := mp_mu
def pb_Q (dy : List mm_Sh) (g : Nat → Nat → Int32) (r : (Nat → Nat → Int64) × Nat × (Nat → Int32)) (C : Nat → List Int32) (ag : Nat → Nat) (x : Nat) : Option Value → mm_Hp → Prop := fun v h' => v = some (.int (nI x)) ∧ ∃ g' r', h' = (hp_SH ++ dy, g', r') ∧ r'.2 = r.2 ∧ fr_ mp_ g g' ∧ nh_ C ag g' ∧ nw_ C ag g'
theorem ct_Mo_pointsBy (dy : List mm_Sh) (g P : Nat → Nat → Int32) (r : (Nat → Nat → Int64) × Nat × (Nat → Int32)) (hP : nr_ g = P) {C : Nat → List Int32} (hR : rt_M P C) {T : sp_T} (hL : rl_LM T P) {K : sp_K} {c : Nat} (hK : rl_CM K P) (hc : c < K.1) {pl : Nat → Option Nat} (hpl : ∀ b, b < 6 → g 67 b = pl_c (pl b)) (hpo : ∀ b l, b < 6 → pl b = some l → l < T.1) (hnh : nh_ C K.2.2.2 g) (hnw : nw_ C K.2.2.2 g) : mm_Ct 60 M_Mo_pointsBy [.ref 52, .int (nI c)] (hp_SH ++ dy, g, r) 0 0 (pb_Q dy g r C K.2.2.2 (sp_pts T C K pl c)) := by
  obtain ⟨-, h6, hcs⟩ := hK
  obtain ⟨k1, k2, k3, k4, k5⟩ := hcs c hc
  have e59 : g 59 (nI c).toNatClampNeg = nI (K.2.1 c) := by rw [nI_clamp (by omega), nr_at hP 59 c rfl]; exact k1
  have e60 : g 60 (nI c).toNatClampNeg = nI (K.2.2.1 c) := by rw [nI_clamp (by omega), nr_at hP 60 c rfl]; exact k2
  refine mm_start pl_Mo (Nat.le_of_ble_eq_true rfl) ?_
  refine mm_B ok_Mo_pointsBy 0 10 (14, [some (.ref 52), some (.int (nI c))], [.int (g 60 ((nI c).toNatClampNeg)), .int (g 59 ((nI c).toNatClampNeg)), .int (nI c), .ref 52], (hp_SH ++ dy, g, r)) [vp_in (nI c) 6, vp_in (nI c) 6] rfl (show (vp_in (nI c) 6) ∧ (vp_in (nI c) 6) from ⟨(nI_vi (by omega) (by decide)), (nI_vi (by omega) (by decide))⟩) ?_
  rw [e59]
  rw [e60]
  refine mm_cV (as := [.int (nI c), .int (nI (K.2.1 c)), .int (nI (K.2.2.1 c))]) (st := []) (q := 52) cw_Mo_spring lk_Mo_288 in_Mo_spring sl_Mo_spring rfl rfl (mm_at ok_Mo_pointsBy (i := 10) rfl).1 (ct_Mo_spring dy g P r hP hR hL (ag := K.2.2.2) (c := c) (by omega) (by omega) (by omega) hpl hpo k5 hnh) (by decide) ⟨by omega, by omega⟩ (Nat.le_of_ble_eq_true rfl) (mm_vs_b (b := 77) rfl (hp_len dy)) (fun v h' hqq => ?_)
  obtain ⟨rfl, g1, r1, hqe, hr1, hF1, h164, hnh1, hrw1, h168⟩ := hqq; rw [hqe]
  refine mm_B ok_Mo_pointsBy 11 2 (19, [some (.ref 52), some (.int (nI c))], [.int (nI c), .ref 52], (hp_SH ++ dy, g1, r1)) [] rfl trivial ?_
  refine mm_cV (as := [.int (nI c)]) (st := []) (q := 52) cw_Mo_endPoints lk_Mo_292 in_Mo_endPoints sl_Mo_endPoints rfl rfl (mm_at ok_Mo_pointsBy (i := 13) rfl).1 (ct_Mo_endPoints dy g1 P r1 (hF1.nr mp_nr hP) hR hL (ag := K.2.2.2) (c := c) (by omega) k5 (fun i hi => sp_run_le _ _ _ _ _ 6 i hi) (nw_fr hnw h164) hrw1) (by decide) ⟨by omega, by omega⟩ (Nat.le_of_ble_eq_true rfl) (mm_vs_b (b := 77) rfl (hp_len dy)) (fun v h' hqq => ?_)
  obtain ⟨rfl, g2, r2, hqe, hr2, hF2, h263, hnw2⟩ := hqq; rw [hqe]
  exact mm_ri rfl (mm_at ok_Mo_pointsBy (i := 14) rfl).1 ⟨Nat.le_refl _, Nat.le_refl _⟩ (⟨rfl, g2, r2, rfl, hr2.trans hr1, hF1.tr (hF2.mono mp_mu), nh_fr hnh1 h263, hnw2⟩)
theorem ap_go (dy : List mm_Sh) (g P : Nat → Nat → Int32) (r : (Nat → Nat → Int64) × Nat × (Nat → Int32)) (hP : nr_ g = P) {C : Nat → List Int32} (hR : rt_M P C) {T : sp_T} (hL : rl_LM T P) {K : sp_K} (hK : rl_CM K P) {pl : Nat → Option Nat} (hpl : ∀ b, b < 6 → g 67 b = pl_c (pl b)) (hpo : ∀ b l, b < 6 → pl b = some l → l < T.1) : ∀ (m k : Nat) (g1 : Nat → Nat → Int32) (r1 : (Nat → Nat → Int64) × Nat × (Nat → Int32)), k + m = K.1 → r1.2 = r.2 → fr_ mp_ g g1 → nh_ C K.2.2.2 g1 → nw_ C K.2.2.2 g1 → mm_W 61 M_Mo_allPoints 0 0 (pb_Q dy g r C K.2.2.2 (sp_all T C K pl)) 0 0 (4, [some (.ref 52), some (.int (nI (sp_sum (sp_pts T C K pl) k))), some (.int (nI k))], [], (hp_SH ++ dy, g1, r1)) := by
  have h6 := hK.2.1
  intro m
  induction m with
  | zero =>
    intro k g1 r1 hk hr hF hnh hnw
    have hk : k = K.1 := hk
    have e14 : g1 52 14 = nI K.1 := by rw [nr_at (hF.nr mp_nr hP) 52 14 rfl]; exact hK.1
    refine mm_B ok_Mo_allPoints 4 3 (9, [some (.ref 52), some (.int (nI (sp_sum (sp_pts T C K pl) k))), some (.int (nI k))], [.int (g1 52 14), .int (nI k)], (hp_SH ++ dy, g1, r1)) [] rfl trivial ?_
    rw [e14]
    refine mm_I ok_Mo_allPoints 7 0 9 [some (.ref 52), some (.int (nI (sp_sum (sp_pts T C K pl) k))), some (.int (nI k))] [.int (nI K.1), .int (nI k)] (hp_SH ++ dy, g1, r1) [] rfl trivial rfl rfl (fun _ => ?_) (fun q => False.elim (q (nI_le (by omega) (by omega))))
    refine mm_B ok_Mo_allPoints 16 1 (27, [some (.ref 52), some (.int (nI (sp_sum (sp_pts T C K pl) k))), some (.int (nI k))], [.int (nI (sp_sum (sp_pts T C K pl) k))], (hp_SH ++ dy, g1, r1)) [] rfl trivial ?_
    exact mm_ri rfl (mm_at ok_Mo_allPoints (i := 17) rfl).1 ⟨Nat.le_refl _, Nat.le_refl _⟩ (⟨by rw [hk]; rfl, g1, r1, rfl, hr, hF, hnh, hnw⟩)
  | succ m ih =>
    intro k g1 r1 hk hr hF hnh hnw
    have hP1 := hF.nr mp_nr hP
    have e14 : g1 52 14 = nI K.1 := by rw [nr_at hP1 52 14 rfl]; exact hK.1
    refine mm_B ok_Mo_allPoints 4 3 (9, [some (.ref 52), some (.int (nI (sp_sum (sp_pts T C K pl) k))), some (.int (nI k))], [.int (g1 52 14), .int (nI k)], (hp_SH ++ dy, g1, r1)) [] rfl trivial ?_
    rw [e14]
    refine mm_I ok_Mo_allPoints 7 0 9 [some (.ref 52), some (.int (nI (sp_sum (sp_pts T C K pl) k))), some (.int (nI k))] [.int (nI K.1), .int (nI k)] (hp_SH ++ dy, g1, r1) [] rfl trivial rfl rfl (fun q => False.elim (nI_ge (show k < K.1 by omega) (by omega) q)) (fun _ => ?_)
    refine mm_B ok_Mo_allPoints 8 3 (15, [some (.ref 52), some (.int (nI (sp_sum (sp_pts T C K pl) k))), some (.int (nI k))], [.int (nI k), .ref 52, .int (nI (sp_sum (sp_pts T C K pl) k))], (hp_SH ++ dy, g1, r1)) [] rfl trivial ?_
    refine mm_cV (as := [.int (nI k)]) (st := [.int (nI (sp_sum (sp_pts T C K pl) k))]) (q := 52) cw_Mo_pointsBy lk_Mo_295 in_Mo_pointsBy sl_Mo_pointsBy rfl rfl (mm_at ok_Mo_allPoints (i := 11) rfl).1 (ct_Mo_pointsBy dy g1 P r1 hP1 hR hL hK (c := k) (by omega) (fun b hb => by rw [hF 67 b rfl]; exact hpl b hb) hpo hnh hnw) (by decide) ⟨by omega, by omega⟩ (Nat.le_of_ble_eq_true rfl) (mm_vs_b (b := 77) rfl (hp_len dy)) (fun v h' hqq => ?_)
    obtain ⟨rfl, g2, r2, hqe, hr2, hF2, hnh2, hnw2⟩ := hqq; rw [hqe]
    refine mm_B ok_Mo_allPoints 12 4 (4, [some (.ref 52), some (.int ((nI (sp_sum (sp_pts T C K pl) k)) + (nI (sp_pts T C K pl k)))), some (.int ((nI k) + 1))], [], (hp_SH ++ dy, g2, r2)) [] rfl trivial ?_
    rw [nI_1, nI_add]
    exact ih (k + 1) g2 r2 (by omega) (hr2.trans hr) (hF.tr hF2) hnh2 hnw2
theorem ct_Mo_allPoints (dy : List mm_Sh) (g P : Nat → Nat → Int32) (r : (Nat → Nat → Int64) × Nat × (Nat → Int32)) (hP : nr_ g = P) {C : Nat → List Int32} (hR : rt_M P C) {T : sp_T} (hL : rl_LM T P) {K : sp_K} (hK : rl_CM K P) {pl : Nat → Option Nat} (hpl : ∀ b, b < 6 → g 67 b = pl_c (pl b)) (hpo : ∀ b l, b < 6 → pl b = some l → l < T.1) (hnh : nh_ C K.2.2.2 g) (hnw : nw_ C K.2.2.2 g) : mm_Ct 61 M_Mo_allPoints [.ref 52] (hp_SH ++ dy, g, r) 0 0 (pb_Q dy g r C K.2.2.2 (sp_all T C K pl)) := by
  refine mm_start pl_Mo (Nat.le_of_ble_eq_true rfl) ?_
  refine mm_B ok_Mo_allPoints 0 4 (4, [some (.ref 52), some (.int 0), some (.int 0)], [], (hp_SH ++ dy, g, r)) [] rfl trivial ?_
  exact ap_go dy g P r hP hR hL hK hpl hpo K.1 0 g r (Nat.zero_add _) rfl fr_.rf hnh hnw
def mr67 (k _ : Nat) : Bool := k == 67
theorem mr67_nr : ∀ k j, nr_s k j = false → mr67 k j = false := by
  intro k j h
  unfold mr67
  cases h67 : k == 67 with
  | true => rw [show k = 67 by simpa using h67] at h; cases h
  | false => rfl
theorem tp_go (dy : List mm_Sh) (g : Nat → Nat → Int32) (r : (Nat → Nat → Int64) × Nat × (Nat → Int32)) : ∀ (m i : Nat) (g1 : Nat → Nat → Int32), i + m = 6 → fr_ mr67 g g1 → (∀ j, j < i → g1 67 j = g 62 j) → mm_W 1 M_Mo_takesPlan 0 0 (fun v h' => v = none ∧ ∃ g', h' = (hp_SH ++ dy, g', r) ∧ fr_ mr67 g g' ∧ ∀ j, j < 6 → g' 67 j = g 62 j) 0 0 (2, [some (.ref 52), some (.int (nI i))], [], (hp_SH ++ dy, g1, r)) := by
  intro m
  induction m with
  | zero =>
    intro i g1 hi hF h
    refine mm_I ok_Mo_takesPlan 2 2 5 [some (.ref 52), some (.int (nI i))] [.int 6, .int (nI i)] (hp_SH ++ dy, g1, r) [] rfl trivial rfl rfl (fun _ => ?_) (fun q => False.elim (q (nI_le (a := 6) (by omega) (by omega))))
    exact mm_r0 rfl (mm_at ok_Mo_takesPlan (i := 15) rfl).1 ⟨Nat.le_refl _, Nat.le_refl _⟩ (⟨rfl, g1, rfl, hF, fun j hj => h j (by omega)⟩)
  | succ m ih =>
    intro i g1 hi hF h
    refine mm_I ok_Mo_takesPlan 2 2 5 [some (.ref 52), some (.int (nI i))] [.int 6, .int (nI i)] (hp_SH ++ dy, g1, r) [] rfl trivial rfl rfl (fun q => False.elim (absurd q (nI_ge (b := 6) (show i < 6 by omega) (by decide)))) (fun _ => ?_)
    refine mm_B ok_Mo_takesPlan 5 10 (2, [some (.ref 52), some (.int ((nI i) + 1))], [], (hp_SH ++ dy, mm_up g1 67 ((nI i).toNatClampNeg) (g1 62 ((nI i).toNatClampNeg)), r)) [vp_in (nI i) 12, vp_in (nI i) 6] rfl (show (vp_in (nI i) 12) ∧ (vp_in (nI i) 6) from ⟨(nI_vi (by omega) (by decide)), (nI_vi (by omega) (by decide))⟩) ?_
    rw [nI_1, nI_clamp (show i < 2 ^ 31 by omega), hF 62 i rfl]
    exact ih (i + 1) _ (by omega) (hF.up _ rfl) (fun j hj => by
      by_cases e : j = i
      · rw [e, mm_up_at]
      · rw [mm_up_no e]; exact h j (by omega))
theorem ct_Mo_takesPlan (dy : List mm_Sh) (g : Nat → Nat → Int32) (r : (Nat → Nat → Int64) × Nat × (Nat → Int32)) : mm_Ct 1 M_Mo_takesPlan [.ref 52] (hp_SH ++ dy, g, r) 0 0 (fun v h' => v = none ∧ ∃ g', h' = (hp_SH ++ dy, g', r) ∧ fr_ mr67 g g' ∧ ∀ j, j < 6 → g' 67 j = g 62 j) := by
  refine mm_start pl_Mo (Nat.le_of_ble_eq_true rfl) ?_
  refine mm_B ok_Mo_takesPlan 0 2 (2, [some (.ref 52), some (.int 0)], [], (hp_SH ++ dy, g, r)) [] rfl trivial ?_
  exact tp_go dy g r 6 0 g (by omega) fr_.rf (fun j hj => absurd hj (Nat.not_lt_zero j))
/-- all that the model's calls scratch -/
def mz_ (k j : Nat) : Bool := mp_ k j || ((k == 67 || k == 69 || k == 70 || k == 71) || (k == 52 && j == 39))
theorem mz_mp : ∀ k j, mz_ k j = false → mp_ k j = false := fun k j h => (Bool.or_eq_false_iff.mp h).1
theorem mz_67 : ∀ k j, mz_ k j = false → mr67 k j = false := fun k j h => (Bool.or_eq_false_iff.mp (Bool.or_eq_false_iff.mp (Bool.or_eq_false_iff.mp (Bool.or_eq_false_iff.mp (Bool.or_eq_false_iff.mp h).2).1).1).1).1
theorem mz_nr : ∀ k j, nr_s k j = false → mz_ k j = false := by
  intro k j h
  unfold mz_
  rw [mp_nr k j h]
  cases h67 : k == 67 with
  | true => rw [show k = 67 by simpa using h67] at h; cases h
  | false =>
    cases h69 : k == 69 with
    | true => rw [show k = 69 by simpa using h69] at h; cases h
    | false =>
      cases h70 : k == 70 with
      | true => rw [show k = 70 by simpa using h70] at h; cases h
      | false =>
        cases h71 : k == 71 with
        | true => rw [show k = 71 by simpa using h71] at h; cases h
        | false =>
          cases h52 : k == 52 with
          | false => rfl
          | true =>
            cases h39 : j == 39 with
            | false => rfl
            | true => rw [show k = 52 by simpa using h52, show j = 39 by simpa using h39] at h; cases h
theorem ca_go (dy : List mm_Sh) (g P : Nat → Nat → Int32) (r : (Nat → Nat → Int64) × Nat × (Nat → Int32)) (hP : nr_ g = P) {C : Nat → List Int32} (hR : rt_M P C) {T : sp_T} (hL : rl_LM T P) {K : sp_K} {c last : Nat} (hK : rl_CM K P) (hc : c < K.1) (hlast : last ≤ 5) {pl ot : Nat → Option Nat} (hpl : ∀ b, b < 6 → P 62 b = pl_c (pl b) ∧ P 62 (6 + b) = pl_c (ot b)) (hpo : ∀ b l, b < 6 → (pl b = some l ∨ ot b = some l) → l < T.1) : ∀ (m i : Nat) (g1 : Nat → Nat → Int32), i + m = 6 → fr_ mr67 g g1 → nh_ C K.2.2.2 g1 → nw_ C K.2.2.2 g1 → (∀ j, j < i → g1 67 j = pl_c (if j ≤ last then pl j else ot j)) → mm_W 61 M_Mo_changeAt 0 0 (fun v h' => v = some (.int (nI (sp_pts T C K (fun b => if b ≤ last then pl b else ot b) c))) ∧ ∃ g' r', h' = (hp_SH ++ dy, g', r') ∧ r'.2 = r.2 ∧ fr_ mz_ g g' ∧ nh_ C K.2.2.2 g' ∧ nw_ C K.2.2.2 g') 0 0 (2, [some (.ref 52), some (.int (nI c)), some (.int (nI last)), some (.int (nI i))], [], (hp_SH ++ dy, g1, r)) := by
  intro m
  induction m with
  | zero =>
    intro i g1 hi hF hnh hnw h
    have hP1 := hF.nr mr67_nr hP
    refine mm_I ok_Mo_changeAt 2 2 5 [some (.ref 52), some (.int (nI c)), some (.int (nI last)), some (.int (nI i))] [.int 6, .int (nI i)] (hp_SH ++ dy, g1, r) [] rfl trivial rfl rfl (fun _ => ?_) (fun q => False.elim (q (nI_le (a := 6) (by omega) (by omega))))
    refine mm_B ok_Mo_changeAt 22 2 (40, [some (.ref 52), some (.int (nI c)), some (.int (nI last)), some (.int (nI i))], [.int (nI c), .ref 52], (hp_SH ++ dy, g1, r)) [] rfl trivial ?_
    refine mm_cV (as := [.int (nI c)]) (st := []) (q := 52) cw_Mo_pointsBy lk_Mo_295 in_Mo_pointsBy sl_Mo_pointsBy rfl rfl (mm_at ok_Mo_changeAt (i := 24) rfl).1 (ct_Mo_pointsBy dy g1 P r hP1 hR hL hK (c := c) hc (pl := fun b => if b ≤ last then pl b else ot b) (fun b hb => h b (by omega)) (fun b l hb hbl => hpo b l hb (by by_cases e : b ≤ last; (rw [if_pos e] at hbl; exact Or.inl hbl); (rw [if_neg e] at hbl; exact Or.inr hbl))) hnh hnw) (by decide) ⟨by omega, by omega⟩ (Nat.le_of_ble_eq_true rfl) (mm_vs_b (b := 77) rfl (hp_len dy)) (fun v h' hqq => ?_)
    obtain ⟨rfl, g2, r2, hqe, hr2, hF2, hnh2, hnw2⟩ := hqq; rw [hqe]
    exact mm_ri rfl (mm_at ok_Mo_changeAt (i := 25) rfl).1 ⟨Nat.le_refl _, Nat.le_refl _⟩ (⟨rfl, g2, r2, rfl, hr2, (hF.mono mz_67).tr (hF2.mono mz_mp), hnh2, hnw2⟩)
  | succ m ih =>
    intro i g1 hi hF hnh hnw h
    have hP1 := hF.nr mr67_nr hP
    refine mm_I ok_Mo_changeAt 2 2 5 [some (.ref 52), some (.int (nI c)), some (.int (nI last)), some (.int (nI i))] [.int 6, .int (nI i)] (hp_SH ++ dy, g1, r) [] rfl trivial rfl rfl (fun q => False.elim (absurd q (nI_ge (b := 6) (show i < 6 by omega) (by decide)))) (fun _ => ?_)
    by_cases hb : i ≤ last
    · refine mm_I ok_Mo_changeAt 5 7 19 [some (.ref 52), some (.int (nI c)), some (.int (nI last)), some (.int (nI i))] [.int (nI last), .int (nI i), .ref 62, .int (nI i), .ref 67] (hp_SH ++ dy, g1, r) [] rfl trivial rfl rfl (fun q => False.elim (absurd q (nI_nlt hb (by omega)))) (fun _ => ?_)
      refine mm_B ok_Mo_changeAt 13 2 (30, [some (.ref 52), some (.int (nI c)), some (.int (nI last)), some (.int (nI i))], [.int (nI i), .ref 62, .int (nI i), .ref 67], (hp_SH ++ dy, g1, r)) [] rfl trivial ?_
      refine mm_B ok_Mo_changeAt 18 4 (2, [some (.ref 52), some (.int (nI c)), some (.int (nI last)), some (.int ((nI i) + 1))], [], (hp_SH ++ dy, mm_up g1 67 ((nI i).toNatClampNeg) (g1 62 ((nI i).toNatClampNeg)), r)) [vp_in (nI i) 12, vp_in (nI i) 6] rfl (show (vp_in (nI i) 12) ∧ (vp_in (nI i) 6) from ⟨(nI_vi (by omega) (by decide)), (nI_vi (by omega) (by decide))⟩) ?_
      have e62 : g1 62 i = pl_c (pl i) := by rw [nr_at hP1 62 i rfl]; exact (hpl i (by omega)).1
      rw [nI_1, nI_clamp (show i < 2 ^ 31 by omega), e62]
      exact ih (i + 1) _ (by omega) (hF.up _ rfl) (nh_fr hnh (fun _ => rfl)) (nw_fr hnw (fun _ => rfl)) (fun j hj => by
        by_cases e : j = i
        · rw [e, mm_up_at, if_pos hb]
        · rw [mm_up_no e]; exact h j (by omega))
    · refine mm_I ok_Mo_changeAt 5 7 19 [some (.ref 52), some (.int (nI c)), some (.int (nI last)), some (.int (nI i))] [.int (nI last), .int (nI i), .ref 62, .int (nI i), .ref 67] (hp_SH ++ dy, g1, r) [] rfl trivial rfl rfl (fun _ => ?_) (fun q => False.elim (q (nI_lt (show last < i by omega) (by omega))))
      refine mm_B ok_Mo_changeAt 15 7 (2, [some (.ref 52), some (.int (nI c)), some (.int (nI last)), some (.int ((nI i) + 1))], [], (hp_SH ++ dy, mm_up g1 67 ((nI i).toNatClampNeg) (g1 62 ((6 + (nI i)).toNatClampNeg)), r)) [vp_in (6 + (nI i)) 12, vp_in (nI i) 6] rfl (show (vp_in (6 + (nI i)) 12) ∧ (vp_in (nI i) 6) from ⟨(by rw [show (6 : Int32) + nI i = nI (6 + i) from nI_add 6 i]; exact nI_vi (by omega) (by decide)), (nI_vi (by omega) (by decide))⟩) ?_
      have e62 : g1 62 (6 + i) = pl_c (ot i) := by rw [nr_at hP1 62 (6 + i) rfl]; exact (hpl i (by omega)).2
      rw [nI_1, show (6 : Int32) + nI i = nI (6 + i) from nI_add 6 i, nI_clamp (show i < 2 ^ 31 by omega), nI_clamp (show 6 + i < 2 ^ 31 by omega), e62]
      exact ih (i + 1) _ (by omega) (hF.up _ rfl) (nh_fr hnh (fun _ => rfl)) (nw_fr hnw (fun _ => rfl)) (fun j hj => by
        by_cases e : j = i
        · rw [e, mm_up_at, if_neg hb]
        · rw [mm_up_no e]; exact h j (by omega))
theorem ct_Mo_changeAt (dy : List mm_Sh) (g P : Nat → Nat → Int32) (r : (Nat → Nat → Int64) × Nat × (Nat → Int32)) (hP : nr_ g = P) {C : Nat → List Int32} (hR : rt_M P C) {T : sp_T} (hL : rl_LM T P) {K : sp_K} {c last : Nat} (hK : rl_CM K P) (hc : c < K.1) (hlast : last ≤ 5) {pl ot : Nat → Option Nat} (hpl : ∀ b, b < 6 → P 62 b = pl_c (pl b) ∧ P 62 (6 + b) = pl_c (ot b)) (hpo : ∀ b l, b < 6 → (pl b = some l ∨ ot b = some l) → l < T.1) (hnh : nh_ C K.2.2.2 g) (hnw : nw_ C K.2.2.2 g) : mm_Ct 61 M_Mo_changeAt [.ref 52, .int (nI c), .int (nI last)] (hp_SH ++ dy, g, r) 0 0 (fun v h' => v = some (.int (nI (sp_pts T C K (fun b => if b ≤ last then pl b else ot b) c))) ∧ ∃ g' r', h' = (hp_SH ++ dy, g', r') ∧ r'.2 = r.2 ∧ fr_ mz_ g g' ∧ nh_ C K.2.2.2 g' ∧ nw_ C K.2.2.2 g') := by
  refine mm_start pl_Mo (Nat.le_of_ble_eq_true rfl) ?_
  refine mm_B ok_Mo_changeAt 0 2 (2, [some (.ref 52), some (.int (nI c)), some (.int (nI last)), some (.int 0)], [], (hp_SH ++ dy, g, r)) [] rfl trivial ?_
  exact ca_go dy g P r hP hR hL hK hc hlast hpl hpo 6 0 g (by omega) fr_.rf hnh hnw (fun j hj => absurd hj (Nat.not_lt_zero j))
/-- the first place of m from k on -/
def fu_ (p : Nat → Bool) : Nat → Nat → Int32
  | 0, _ => -1
  | m + 1, k => if p k = true then nI k else fu_ p m (k + 1)
theorem mul40 {a : Nat} : (40 : Int32) * nI a = nI (40 * a) := (Int32.ofNat_mul 40 a).symm
theorem un_go (dy : List mm_Sh) (g : Nat → Nat → Int32) (r : (Nat → Nat → Int64) × Nat × (Nat → Int32)) {s : Nat} (hs : s < 4) : ∀ (m k : Nat), k + m = 6 → mm_W 1 M_Mo_unlike 0 0 (fun v h' => v = some (.int (fu_ (fun b => decide (¬ g 68 b = g 76 (40 * s + b))) m k)) ∧ h' = (hp_SH ++ dy, g, r)) 0 0 (2, [some (.ref 52), some (.int (nI s)), some (.int (nI k))], [], (hp_SH ++ dy, g, r)) := by
  intro m
  induction m with
  | zero =>
    intro k hk
    refine mm_I ok_Mo_unlike 2 2 5 [some (.ref 52), some (.int (nI s)), some (.int (nI k))] [.int 6, .int (nI k)] (hp_SH ++ dy, g, r) [] rfl trivial rfl rfl (fun _ => ?_) (fun q => False.elim (q (nI_le (a := 6) (by omega) (by omega))))
    refine mm_B ok_Mo_unlike 22 1 (37, [some (.ref 52), some (.int (nI s)), some (.int (nI k))], [.int (-1)], (hp_SH ++ dy, g, r)) [] rfl trivial ?_
    exact mm_ri rfl (mm_at ok_Mo_unlike (i := 23) rfl).1 ⟨Nat.le_refl _, Nat.le_refl _⟩ (⟨rfl, rfl⟩)
  | succ m ih =>
    intro k hk
    refine mm_I ok_Mo_unlike 2 2 5 [some (.ref 52), some (.int (nI s)), some (.int (nI k))] [.int 6, .int (nI k)] (hp_SH ++ dy, g, r) [] rfl trivial rfl rfl (fun q => False.elim (absurd q (nI_ge (b := 6) (show k < 6 by omega) (by decide)))) (fun _ => ?_)
    refine mm_B ok_Mo_unlike 5 12 (25, [some (.ref 52), some (.int (nI s)), some (.int (nI k))], [.int (g 76 (((40 * (nI s)) + (nI k)).toNatClampNeg)), .int (g 68 ((nI k).toNatClampNeg))], (hp_SH ++ dy, g, r)) [vp_in (nI k) 6, vp_in ((40 * (nI s)) + (nI k)) 160] rfl (show (vp_in (nI k) 6) ∧ (vp_in ((40 * (nI s)) + (nI k)) 160) from ⟨(nI_vi (by omega) (by decide)), (by rw [mul40, nI_add]; exact nI_vi (by omega) (by decide))⟩) ?_
    rw [mul40, nI_add, nI_clamp (show k < 2 ^ 31 by omega), nI_clamp (show 40 * s + k < 2 ^ 31 by omega)]
    refine mm_I ok_Mo_unlike 17 0 25 [some (.ref 52), some (.int (nI s)), some (.int (nI k))] [.int (g 76 (40 * s + k)), .int (g 68 k)] (hp_SH ++ dy, g, r) [] rfl trivial rfl rfl (fun q => ?_) (fun q => ?_)
    · refine mm_B ok_Mo_unlike 20 2 (2, [some (.ref 52), some (.int (nI s)), some (.int ((nI k) + 1))], [], (hp_SH ++ dy, g, r)) [] rfl trivial ?_
      rw [nI_1]
      have h8 := ih (k + 1) (by omega)
      simp only [fu_]
      rw [if_neg (by simp [q])]
      exact h8
    · refine mm_B ok_Mo_unlike 18 1 (29, [some (.ref 52), some (.int (nI s)), some (.int (nI k))], [.int (nI k)], (hp_SH ++ dy, g, r)) [] rfl trivial ?_
      exact mm_ri rfl (mm_at ok_Mo_unlike (i := 19) rfl).1 ⟨Nat.le_refl _, Nat.le_refl _⟩ (⟨by simp only [fu_]; rw [if_pos (by simp [q])], rfl⟩)
theorem ct_Mo_unlike (dy : List mm_Sh) (g : Nat → Nat → Int32) (r : (Nat → Nat → Int64) × Nat × (Nat → Int32)) {s : Nat} (hs : s < 4) : mm_Ct 1 M_Mo_unlike [.ref 52, .int (nI s)] (hp_SH ++ dy, g, r) 0 0 (fun v h' => v = some (.int (fu_ (fun b => decide (¬ g 68 b = g 76 (40 * s + b))) 6 0)) ∧ h' = (hp_SH ++ dy, g, r)) := by
  refine mm_start pl_Mo (Nat.le_of_ble_eq_true rfl) ?_
  refine mm_B ok_Mo_unlike 0 2 (2, [some (.ref 52), some (.int (nI s)), some (.int 0)], [], (hp_SH ++ dy, g, r)) [] rfl trivial ?_
  exact un_go dy g r hs 6 0 (by omega)

