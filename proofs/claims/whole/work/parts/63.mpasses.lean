/-! ===== the model: passes, spring, endPoints ===== -/
theorem rw_at {g : Nat → Nat → Int32} {b l : Nat} {c : sp_C} (h : rw_ g b c) (hl : l < 4) : g 65 (4 * b + l) = nI (c.1 l) ∧ g 66 (4 * b + l) = nI (c.2 l) - 1 := h l hl
def ps_Q (dy : List mm_Sh) (g : Nat → Nat → Int32) (r : (Nat → Nat → Int64) × Nat × (Nat → Int32)) (C : Nat → List Int32) (ag : Nat → Nat) (b : Nat) (c : sp_C) : Option Value → mm_Hp → Prop := fun v h' => v = none ∧ ∃ g' r', h' = (hp_SH ++ dy, g', r') ∧ r'.2 = r.2 ∧ fr_ (mo_ (b + 1)) g g' ∧ (∀ i, g' 64 i = g 64 i) ∧ nh_ C ag g' ∧ rw_ g' (b + 1) c
theorem ub_ite {T : sp_T} {c : sp_C} {b l : Nat} : (sp_ub T c b l → sp_lis T c b l = (sp_up c.1 l (c.1 l + 1), sp_up c.2 l (b + 1))) ∧ (¬ sp_ub T c b l → sp_lis T c b l = (sp_up c.1 l (c.1 l + 1), c.2)) := by
  refine ⟨fun h => ?_, fun h => ?_⟩
  · unfold sp_lis; rw [if_pos h]
  · unfold sp_lis; rw [if_neg h]
theorem rw_st {g : Nat → Nat → Int32} {b l : Nat} {f t : Nat → Nat} (h65 : ∀ i, i < 4 → g 65 (4 * (b + 1) + i) = nI (f i)) (h66 : ∀ i, i < 4 → g 66 (4 * (b + 1) + i) = nI (t i) - 1) (hl : l < 4) : rw_ (mm_up g 66 (4 * (b + 1) + l) (nI b)) (b + 1) (f, sp_up t l (b + 1)) := by
  intro i hi
  refine ⟨h65 i hi, ?_⟩
  by_cases e : i = l
  · subst e
    rw [mm_up_at]
    show nI b = nI (sp_up t i (b + 1) i) - 1
    rw [sp_up_at, nI_pred]
  · rw [mm_up_no (by omega), h66 i hi]
    show _ = nI (sp_up t l (b + 1) i) - 1
    rw [sp_up_ne _ _ e]
theorem ps_tl (dy : List mm_Sh) (g P : Nat → Nat → Int32) (r : (Nat → Nat → Int64) × Nat × (Nat → Int32)) (hP : nr_ g = P) {C : Nat → List Int32} (hR : rt_M P C) {T : sp_T} (hL : rl_LM T P) {ag : Nat → Nat} {b c l : Nat} {cs : sp_C} (hb : b < 6) (hc : c < 6) (hl : l < T.1) (hcs : ∀ i, i < 4 → cs.1 i ≤ b ∧ cs.2 i ≤ b) (hag : P 61 c = nI (ag c)) (g1 : Nat → Nat → Int32) (hF : fr_ (mo_ (b + 1)) g g1) (h64 : ∀ i, g1 64 i = g 64 i) (hnh : nh_ C ag g1) (h0 : rw_ g1 b cs) (h1 : rw_ g1 (b + 1) cs) : mm_W 58 M_Mo_passes 0 0 (ps_Q dy g r C ag b (sp_stp T (sp_H C ag c) b (some l) cs)) 0 0 (74, [some (.ref 52), some (.int (nI b)), some (.int (nI c)), some (.int (nI l)), some (.int 1), none, none], [], (hp_SH ++ dy, g1, r)) := by
  have h4 := hL.2.1
  have hP1 := hF.nr mo_nr hP
  have hhl := sp_has_lt T cs.2 b h4
  have hcl := hcs l (by omega)
  refine mm_B ok_Mo_passes 49 3 (77, [some (.ref 52), some (.int (nI b)), some (.int (nI c)), some (.int (nI l)), some (.int 1), none, none], [.int (nI b), .int (nI b), .ref 52], (hp_SH ++ dy, g1, r)) [] rfl trivial ?_
  refine mm_cV (as := [.int (nI b), .int (nI b)]) (st := []) (q := 52) cw_Mo_hasBy lk_Mo_267 in_Mo_hasBy sl_Mo_hasBy rfl rfl (mm_at ok_Mo_passes (i := 52) rfl).1 (ct_Mo_hasBy dy g1 P r hP1 hL (a := b) (b := b) (by omega) hb (fun i hi => ⟨by have := hcs i (by omega); omega, by have := hcs i (by omega); omega, (h0 i (by omega)).2⟩)) (by decide) ⟨by omega, by omega⟩ (Nat.le_of_ble_eq_true rfl) (mm_vs_b (b := 77) rfl (hp_len dy)) (fun v h' hqq => ?_)
  obtain ⟨rfl, hqe⟩ := hqq; rw [hqe]
  refine mm_B ok_Mo_passes 53 15 (100, [some (.ref 52), some (.int (nI b)), some (.int (nI c)), some (.int (nI l)), some (.int 1), some (.int (nI (sp_has T cs.2 b))), some (.int (g1 65 (((4 * (nI b)) + (nI l)).toNatClampNeg)))], [.int (nI (sp_has T cs.2 b)), .int (nI l), .int (nI c), .int (nI b), .ref 52], (hp_SH ++ dy, g1, r)) [vp_in ((4 * (nI b)) + (nI l)) 28] rfl (show vp_in ((4 * (nI b)) + (nI l)) 28 from (by rw [mul4, nI_add]; exact nI_vi (by omega) (by decide))) ?_
  rw [mul4, nI_add, nI_clamp (show 4 * b + l < 2 ^ 31 by omega), (h0 l (by omega)).1]
  refine mm_cS (as := [.int (nI (sp_has T cs.2 b))]) (st := [.int (nI l), .int (nI c), .int (nI b), .ref 52]) cw_Mo_bitsOf lk_Mo_270 sx_Mo_bitsOf (mm_at ok_Mo_passes (i := 68) rfl).1 (ct_Mo_bitsOf (hp_SH ++ dy, g1, r) (v := sp_has T cs.2 b) (by omega)) (by decide) ⟨by omega, by omega⟩ (Nat.le_of_ble_eq_true rfl) (mm_vs_b (b := 77) rfl (hp_len dy)) (fun v h' hqq => ?_)
  obtain ⟨rfl, hqe⟩ := hqq; rw [hqe, p6_pc _ hhl]
  refine mm_B ok_Mo_passes 69 1 (105, [some (.ref 52), some (.int (nI b)), some (.int (nI c)), some (.int (nI l)), some (.int 1), some (.int (nI (sp_has T cs.2 b))), some (.int (nI (cs.1 l)))], [.int (nI (cs.1 l)), .int (nI (sp_pc (sp_has T cs.2 b))), .int (nI l), .int (nI c), .int (nI b), .ref 52], (hp_SH ++ dy, g1, r)) [] rfl trivial ?_
  refine mm_cV (as := [.int (nI b), .int (nI c), .int (nI l), .int (nI (sp_pc (sp_has T cs.2 b))), .int (nI (cs.1 l))]) (st := []) (q := 52) cw_Mo_hears lk_Mo_273 in_Mo_hears sl_Mo_hears rfl rfl (mm_at ok_Mo_passes (i := 70) rfl).1 (ct_Mo_hears dy g1 P r hP1 hR (ag := ag) (b := b) (c := c) (l := l) (k := sp_pc (sp_has T cs.2 b)) (o := cs.1 l) hnh hb hc (by omega) (sp_pc_lt _ hhl) (by omega) hag) (by decide) ⟨by omega, by omega⟩ (Nat.le_of_ble_eq_true rfl) (mm_vs_b (b := 77) rfl (hp_len dy)) (fun v h' hqq => ?_)
  obtain ⟨rfl, g2, r2, hqe, hr2, hF2, h264, hnh2⟩ := hqq; rw [hqe]
  have hF02 : fr_ (mo_ (b + 1)) g g2 := hF.tr (hF2.mono mo_mu)
  have h02 : ∀ i, g2 64 i = g 64 i := fun i => (h264 i).trans (h64 i)
  have h12 : rw_ g2 (b + 1) cs := fun i hi => by rw [hF2 65 _ rfl, hF2 66 _ rfl]; exact h1 i hi
  have hP2 := hF02.nr mo_nr hP
  by_cases hH : sp_H C ag c b l (sp_pc (sp_has T cs.2 b)) (cs.1 l) = true
  · have e9 : sp_stp T (sp_H C ag c) b (some l) cs = sp_lis T cs b l := by unfold sp_stp; exact if_pos hH
    rw [e9]
    obtain ⟨a1, a2, a3, a4, a5, a6⟩ := ml_at hP2 hL hl
    have hub := ub_ite (T := T) (c := cs) (b := b) (l := l)
    rw [if_pos hH]
    refine mm_I ok_Mo_passes 71 0 108 [some (.ref 52), some (.int (nI b)), some (.int (nI c)), some (.int (nI l)), some (.int 1), some (.int (nI (sp_has T cs.2 b))), some (.int (nI (cs.1 l)))] [.int 1] (hp_SH ++ dy, g2, r2) [] rfl trivial rfl rfl (fun _ => ?_) (fun q => False.elim (absurd q (by decide)))
    refine mm_B ok_Mo_passes 73 18 (134, [some (.ref 52), some (.int (nI b)), some (.int (nI c)), some (.int (nI l)), some (.int 1), some (.int (nI (sp_has T cs.2 b))), some (.int (nI (cs.1 l)))], [.int (nI l), .ref 52, .int ((nI (cs.1 l)) + 1)], (hp_SH ++ dy, mm_up g2 65 (((4 * ((nI b) + 1)) + (nI l)).toNatClampNeg) ((nI (cs.1 l)) + 1), r2)) [vp_in ((4 * ((nI b) + 1)) + (nI l)) 28] rfl (show vp_in ((4 * ((nI b) + 1)) + (nI l)) 28 from (by rw [nI_1, mul4, nI_add]; exact nI_vi (by omega) (by decide))) ?_
    rw [nI_1 b, mul4, nI_add, nI_clamp (show 4 * (b + 1) + l < 2 ^ 31 by omega), nI_1]
    obtain ⟨g3, hg3⟩ : ∃ x, x = mm_up g2 65 (4 * (b + 1) + l) (nI (cs.1 l + 1)) := ⟨_, rfl⟩
    rw [← hg3]
    have hF23 : fr_ (mo_ (b + 1)) g2 g3 := by rw [hg3]; exact fr_.rf.up _ (mo_in (by omega) (Or.inl rfl))
    have hF03 := hF02.tr hF23
    have hP3 := hF03.nr mo_nr hP
    have h363 : ∀ i, g3 63 i = g2 63 i := fun i => by rw [hg3]; rfl
    have h364 : ∀ i, g3 64 i = g 64 i := fun i => by rw [hg3]; exact h02 i
    have hnh3 : nh_ C ag g3 := nh_fr hnh2 h363
    have h65 : ∀ i, i < 4 → g3 65 (4 * (b + 1) + i) = nI (sp_up cs.1 l (cs.1 l + 1) i) := by
      intro i hi
      rw [hg3]
      by_cases e : i = l
      · subst e; rw [mm_up_at, sp_up_at]
      · rw [mm_up_no (by omega), sp_up_ne _ _ e]; exact (h12 i hi).1
    have h66 : ∀ i, i < 4 → g3 66 (4 * (b + 1) + i) = nI (cs.2 i) - 1 := by
      intro i hi
      rw [hg3]
      exact (h12 i hi).2
    have hendN : ¬ sp_ub T cs b l → ps_Q dy g r C ag b (sp_lis T cs b l) none (hp_SH ++ dy, g3, r2) := fun hn => ⟨rfl, g3, r2, rfl, hr2, hF03, h364, hnh3, by rw [hub.2 hn]; exact fun i hi => ⟨h65 i hi, h66 i hi⟩⟩
    refine mm_cV (as := [.int (nI l)]) (st := [.int (nI (cs.1 l + 1))]) (q := 52) cw_Mo_times lk_Mo_126 in_Mo_times sl_Mo_times rfl rfl (mm_at ok_Mo_passes (i := 91) rfl).1 (ct_Mo_times dy g3 r2 (nI l) (nI_vi (by omega) (by decide))) (by decide) ⟨by omega, by omega⟩ (Nat.le_of_ble_eq_true rfl) (mm_vs_b (b := 77) rfl (hp_len dy)) (fun v h' hqq => ?_)
    obtain ⟨rfl, hqe⟩ := hqq; rw [hqe]
    rw [me_tm hP3 hL hl]
    have htm : sp_times T l < 100 := by
      unfold sp_times sp_tm
      split <;> omega
    by_cases u1 : sp_times T l ≤ cs.1 l + 1
    rotate_left
    · refine mm_I ok_Mo_passes 92 0 137 [some (.ref 52), some (.int (nI b)), some (.int (nI c)), some (.int (nI l)), some (.int 1), some (.int (nI (sp_has T cs.2 b))), some (.int (nI (cs.1 l)))] [.int (nI (sp_times T l)), .int (nI (cs.1 l + 1))] (hp_SH ++ dy, g3, r2) [] rfl trivial rfl rfl (fun _ => ?_) (fun q => False.elim (q (nI_lt (by omega) (by omega))))
      exact mm_r0 rfl (mm_at ok_Mo_passes (i := 121) rfl).1 ⟨Nat.le_refl _, Nat.le_refl _⟩ (hendN (fun h => u1 h.1))
    · refine mm_I ok_Mo_passes 92 0 137 [some (.ref 52), some (.int (nI b)), some (.int (nI c)), some (.int (nI l)), some (.int 1), some (.int (nI (sp_has T cs.2 b))), some (.int (nI (cs.1 l)))] [.int (nI (sp_times T l)), .int (nI (cs.1 l + 1))] (hp_SH ++ dy, g3, r2) [] rfl trivial rfl rfl (fun q => False.elim (absurd q (nI_nlt u1 (by omega)))) (fun _ => ?_)
      have a5' : g3 58 (nI l).toNatClampNeg = nI (T.2.2.2 l) := by rw [hF23 58 _ rfl]; exact a5
      refine mm_B ok_Mo_passes 93 10 (155, [some (.ref 52), some (.int (nI b)), some (.int (nI c)), some (.int (nI l)), some (.int 1), some (.int (nI (sp_has T cs.2 b))), some (.int (nI (cs.1 l)))], [.int (g3 58 ((nI l).toNatClampNeg)), .int ((nI (sp_has T cs.2 b)) &&& (g3 58 ((nI l).toNatClampNeg)))], (hp_SH ++ dy, g3, r2)) [vp_in (nI l) 4, vp_in (nI l) 4] rfl (show (vp_in (nI l) 4) ∧ (vp_in (nI l) 4) from ⟨(nI_vi (by omega) (by decide)), (nI_vi (by omega) (by decide))⟩) ?_
      rw [a5', bt_and]
      have h16 : 2 ^ l ≤ 2 ^ 3 := Nat.pow_le_pow_right (by decide) (by omega)
      have hand : sp_has T cs.2 b &&& T.2.2.2 l < 2 ^ 31 := Nat.lt_of_le_of_lt (Nat.and_le_left) (by omega)
      by_cases u2 : sp_has T cs.2 b &&& T.2.2.2 l = T.2.2.2 l
      rotate_left
      · refine mm_I ok_Mo_passes 103 0 155 [some (.ref 52), some (.int (nI b)), some (.int (nI c)), some (.int (nI l)), some (.int 1), some (.int (nI (sp_has T cs.2 b))), some (.int (nI (cs.1 l)))] [.int (nI (T.2.2.2 l)), .int (nI (sp_has T cs.2 b &&& T.2.2.2 l))] (hp_SH ++ dy, g3, r2) [] rfl trivial rfl rfl (fun _ => ?_) (fun q => False.elim (absurd ((nI_eq hand (by omega)).mp q) u2))
        exact mm_r0 rfl (mm_at ok_Mo_passes (i := 121) rfl).1 ⟨Nat.le_refl _, Nat.le_refl _⟩ (hendN (fun h => u2 h.2.1))
      · rw [u2]
        refine mm_I ok_Mo_passes 103 0 155 [some (.ref 52), some (.int (nI b)), some (.int (nI c)), some (.int (nI l)), some (.int 1), some (.int (nI (sp_has T cs.2 b))), some (.int (nI (cs.1 l)))] [.int (nI (T.2.2.2 l)), .int (nI (T.2.2.2 l))] (hp_SH ++ dy, g3, r2) [] rfl trivial rfl rfl (fun q => False.elim (q rfl)) (fun _ => ?_)
        refine mm_B ok_Mo_passes 104 5 (164, [some (.ref 52), some (.int (nI b)), some (.int (nI c)), some (.int (nI l)), some (.int 1), some (.int (nI (sp_has T cs.2 b))), some (.int (nI (cs.1 l)))], [.int (((nI (sp_has T cs.2 b)) >>> ((nI l) &&& 31)) &&& 1)], (hp_SH ++ dy, g3, r2)) [] rfl trivial ?_
        rw [bt_tst _ hhl _ (show l < 4 by omega)]
        by_cases u3 : sp_has T cs.2 b / 2 ^ l % 2 = 0
        rotate_left
        · refine mm_I ok_Mo_passes 109 0 164 [some (.ref 52), some (.int (nI b)), some (.int (nI c)), some (.int (nI l)), some (.int 1), some (.int (nI (sp_has T cs.2 b))), some (.int (nI (cs.1 l)))] [.int (nI (sp_has T cs.2 b / 2 ^ l % 2))] (hp_SH ++ dy, g3, r2) [] rfl trivial rfl rfl (fun _ => ?_) (fun q => False.elim (nI_ne0 (by omega) (by omega) q))
          exact mm_r0 rfl (mm_at ok_Mo_passes (i := 121) rfl).1 ⟨Nat.le_refl _, Nat.le_refl _⟩ (hendN (fun h => u3 h.2.2))
        · refine mm_I ok_Mo_passes 109 0 164 [some (.ref 52), some (.int (nI b)), some (.int (nI c)), some (.int (nI l)), some (.int 1), some (.int (nI (sp_has T cs.2 b))), some (.int (nI (cs.1 l)))] [.int (nI (sp_has T cs.2 b / 2 ^ l % 2))] (hp_SH ++ dy, g3, r2) [] rfl trivial rfl rfl (fun q => False.elim (q (by rw [u3]; rfl))) (fun _ => ?_)
          refine mm_B ok_Mo_passes 110 11 (180, [some (.ref 52), some (.int (nI b)), some (.int (nI c)), some (.int (nI l)), some (.int 1), some (.int (nI (sp_has T cs.2 b))), some (.int (nI (cs.1 l)))], [], (hp_SH ++ dy, mm_up g3 66 (((4 * ((nI b) + 1)) + (nI l)).toNatClampNeg) (nI b), r2)) [vp_in ((4 * ((nI b) + 1)) + (nI l)) 28] rfl (show vp_in ((4 * ((nI b) + 1)) + (nI l)) 28 from (by rw [nI_1, mul4, nI_add]; exact nI_vi (by omega) (by decide))) ?_
          rw [nI_1 b, mul4, nI_add, nI_clamp (show 4 * (b + 1) + l < 2 ^ 31 by omega)]
          exact mm_r0 rfl (mm_at ok_Mo_passes (i := 121) rfl).1 ⟨Nat.le_refl _, Nat.le_refl _⟩ (⟨rfl, _, r2, rfl, hr2, hF03.up _ (mo_in (by omega) (Or.inr rfl)), h364, nh_fr hnh3 (fun _ => rfl), by rw [hub.1 ⟨u1, u2, u3⟩]; exact rw_st h65 h66 (by omega)⟩)
  · have e9 : sp_stp T (sp_H C ag c) b (some l) cs = cs := by unfold sp_stp; exact if_neg hH
    rw [e9]
    rw [if_neg hH]
    refine mm_I ok_Mo_passes 71 0 108 [some (.ref 52), some (.int (nI b)), some (.int (nI c)), some (.int (nI l)), some (.int 1), some (.int (nI (sp_has T cs.2 b))), some (.int (nI (cs.1 l)))] [.int 0] (hp_SH ++ dy, g2, r2) [] rfl trivial rfl rfl (fun q => False.elim (q rfl)) (fun _ => ?_)
    exact mm_r0 rfl (mm_at ok_Mo_passes (i := 72) rfl).1 ⟨Nat.le_refl _, Nat.le_refl _⟩ (⟨rfl, g2, r2, rfl, hr2, hF02, h02, hnh2, h12⟩)
theorem ps_go (dy : List mm_Sh) (g P : Nat → Nat → Int32) (r : (Nat → Nat → Int64) × Nat × (Nat → Int32)) (hP : nr_ g = P) {C : Nat → List Int32} (hR : rt_M P C) {T : sp_T} (hL : rl_LM T P) {ag : Nat → Nat} {b c : Nat} {cs : sp_C} {ol : Option Nat} {z : Int32} (hb : b < 6) (hc : c < 6) (hol : ∀ l, ol = some l → l < T.1) (hcs : ∀ i, i < 4 → cs.1 i ≤ b ∧ cs.2 i ≤ b) (hag : P 61 c = nI (ag c)) (hz : z = 0 ∨ z = 1) (hnh : nh_ C ag g) (h0 : rw_ g b cs) : ∀ (m k : Nat) (g1 : Nat → Nat → Int32), k + m = 4 → fr_ (mo_ (b + 1)) g g1 → (∀ i, g1 63 i = g 63 i ∧ g1 64 i = g 64 i) → (∀ j, j < k → g1 65 (4 * (b + 1) + j) = nI (cs.1 j) ∧ g1 66 (4 * (b + 1) + j) = nI (cs.2 j) - 1) → mm_W 58 M_Mo_passes 0 0 (ps_Q dy g r C ag b (if z = 1 then sp_stp T (sp_H C ag c) b ol cs else cs)) 0 0 (3, [some (.ref 52), some (.int (nI b)), some (.int (nI c)), some (.int (pl_c ol)), some (.int z), some (.int (nI k)), none], [], (hp_SH ++ dy, g1, r)) := by
  intro m
  induction m with
  | zero =>
    intro k g1 hk hF hN hr1
    have h1 : rw_ g1 (b + 1) cs := fun i hi => hr1 i (by omega)
    have h01 : rw_ g1 b cs := rw_fr h0 hF (by omega)
    have hend : ps_Q dy g r C ag b cs none (hp_SH ++ dy, g1, r) := ⟨rfl, g1, r, rfl, rfl, hF, fun i => (hN i).2, nh_fr hnh (fun i => (hN i).1), h1⟩
    refine mm_I ok_Mo_passes 2 2 6 [some (.ref 52), some (.int (nI b)), some (.int (nI c)), some (.int (pl_c ol)), some (.int z), some (.int (nI k)), none] [.int 4, .int (nI k)] (hp_SH ++ dy, g1, r) [] rfl trivial rfl rfl (fun _ => ?_) (fun q => False.elim (q (nI_le (a := 4) (by omega) (by omega))))
    cases ol with
    | none =>
      refine mm_I ok_Mo_passes 43 2 65 [some (.ref 52), some (.int (nI b)), some (.int (nI c)), some (.int (-1)), some (.int z), some (.int (nI k)), none] [.int (-1), .int (-1)] (hp_SH ++ dy, g1, r) [] rfl trivial rfl rfl (fun _ => ?_) (fun q => False.elim (q rfl))
      exact mm_r0 rfl (mm_at ok_Mo_passes (i := 48) rfl).1 ⟨Nat.le_refl _, Nat.le_refl _⟩ ((show ps_Q dy g r C ag b (if z = 1 then sp_stp T (sp_H C ag c) b none cs else cs) none _ from by rw [show (if z = 1 then sp_stp T (sp_H C ag c) b none cs else cs) = cs from by split <;> rfl]; exact hend))
    | some l =>
      have hl := hol l rfl
      have h4 := hL.2.1
      refine mm_I ok_Mo_passes 43 2 65 [some (.ref 52), some (.int (nI b)), some (.int (nI c)), some (.int (nI l)), some (.int z), some (.int (nI k)), none] [.int (-1), .int (nI l)] (hp_SH ++ dy, g1, r) [] rfl trivial rfl rfl (fun q => False.elim (nI_m1 l (by omega) q)) (fun _ => ?_)
      rcases hz with hz | hz
      · subst hz
        refine mm_I ok_Mo_passes 46 1 70 [some (.ref 52), some (.int (nI b)), some (.int (nI c)), some (.int (nI l)), some (.int 0), some (.int (nI k)), none] [.int 0] (hp_SH ++ dy, g1, r) [] rfl trivial rfl rfl (fun q => False.elim (q rfl)) (fun _ => ?_)
        exact mm_r0 rfl (mm_at ok_Mo_passes (i := 48) rfl).1 ⟨Nat.le_refl _, Nat.le_refl _⟩ (hend)
      · subst hz
        refine mm_I ok_Mo_passes 46 1 70 [some (.ref 52), some (.int (nI b)), some (.int (nI c)), some (.int (nI l)), some (.int 1), some (.int (nI k)), none] [.int 1] (hp_SH ++ dy, g1, r) [] rfl trivial rfl rfl (fun _ => ?_) (fun q => False.elim (absurd q (by decide)))
        refine mm_fg [5] ?_
        exact ps_tl dy g P r hP hR hL hb hc hl hcs hag g1 hF (fun i => (hN i).2) (nh_fr hnh (fun i => (hN i).1)) h01 h1
  | succ m ih =>
    intro k g1 hk hF hN hr1
    have h01 : rw_ g1 b cs := rw_fr h0 hF (by omega)
    refine mm_I ok_Mo_passes 2 2 6 [some (.ref 52), some (.int (nI b)), some (.int (nI c)), some (.int (pl_c ol)), some (.int z), some (.int (nI k)), none] [.int 4, .int (nI k)] (hp_SH ++ dy, g1, r) [] rfl trivial rfl rfl (fun q => False.elim (absurd q (nI_ge (b := 4) (show k < 4 by omega) (by decide)))) (fun _ => ?_)
    refine mm_B ok_Mo_passes 5 38 (3, [some (.ref 52), some (.int (nI b)), some (.int (nI c)), some (.int (pl_c ol)), some (.int z), some (.int ((nI k) + 1)), none], [], (hp_SH ++ dy, mm_up (mm_up g1 65 (((4 * ((nI b) + 1)) + (nI k)).toNatClampNeg) (g1 65 (((4 * (nI b)) + (nI k)).toNatClampNeg))) 66 (((4 * ((nI b) + 1)) + (nI k)).toNatClampNeg) (g1 66 (((4 * (nI b)) + (nI k)).toNatClampNeg)), r)) [vp_in ((4 * (nI b)) + (nI k)) 28, vp_in ((4 * ((nI b) + 1)) + (nI k)) 28, vp_in ((4 * (nI b)) + (nI k)) 28, vp_in ((4 * ((nI b) + 1)) + (nI k)) 28] rfl (show (vp_in ((4 * (nI b)) + (nI k)) 28) ∧ (vp_in ((4 * ((nI b) + 1)) + (nI k)) 28) ∧ (vp_in ((4 * (nI b)) + (nI k)) 28) ∧ (vp_in ((4 * ((nI b) + 1)) + (nI k)) 28) from ⟨(by rw [mul4, nI_add]; exact nI_vi (by omega) (by decide)), (by rw [nI_1, mul4, nI_add]; exact nI_vi (by omega) (by decide)), (by rw [mul4, nI_add]; exact nI_vi (by omega) (by decide)), (by rw [nI_1, mul4, nI_add]; exact nI_vi (by omega) (by decide))⟩) ?_
    rw [nI_1 b, mul4, mul4, nI_add, nI_add, nI_clamp (show 4 * (b + 1) + k < 2 ^ 31 by omega), nI_clamp (show 4 * b + k < 2 ^ 31 by omega), nI_1, (h01 k (by omega)).1, (h01 k (by omega)).2]
    exact ih (k + 1) _ (by omega) ((hF.up _ (mo_in (by omega) (Or.inl rfl))).up _ (mo_in (by omega) (Or.inr rfl))) hN (fun j hj => by
      by_cases e : j = k
      · subst e
        exact ⟨mm_up_at _ 65 _ _, mm_up_at _ 66 _ _⟩
      · have h9 := hr1 j (by omega)
        refine ⟨?_, ?_⟩
        · show mm_up g1 65 (4 * (b + 1) + k) _ 65 _ = _
          rw [mm_up_no (by omega)]; exact h9.1
        · rw [mm_up_no (by omega)]; exact h9.2)
theorem ct_Mo_passes (dy : List mm_Sh) (g P : Nat → Nat → Int32) (r : (Nat → Nat → Int64) × Nat × (Nat → Int32)) (hP : nr_ g = P) {C : Nat → List Int32} (hR : rt_M P C) {T : sp_T} (hL : rl_LM T P) {ag : Nat → Nat} {b c : Nat} {cs : sp_C} {ol : Option Nat} {z : Int32} (hb : b < 6) (hc : c < 6) (hol : ∀ l, ol = some l → l < T.1) (hcs : ∀ i, i < 4 → cs.1 i ≤ b ∧ cs.2 i ≤ b) (hag : P 61 c = nI (ag c)) (hz : z = 0 ∨ z = 1) (hnh : nh_ C ag g) (h0 : rw_ g b cs) : mm_Ct 58 M_Mo_passes [.ref 52, .int (nI b), .int (nI c), .int (pl_c ol), .int z] (hp_SH ++ dy, g, r) 0 0 (ps_Q dy g r C ag b (if z = 1 then sp_stp T (sp_H C ag c) b ol cs else cs)) := by
  refine mm_start pl_Mo (Nat.le_of_ble_eq_true rfl) ?_
  refine mm_B ok_Mo_passes 0 2 (3, [some (.ref 52), some (.int (nI b)), some (.int (nI c)), some (.int (pl_c ol)), some (.int z), some (.int 0), none], [], (hp_SH ++ dy, g, r)) [] rfl trivial ?_
  exact ps_go dy g P r hP hR hL hb hc hol hcs hag hz hnh h0 4 0 g (by omega) fr_.rf (fun _ => ⟨rfl, rfl⟩) (fun j hj => absurd hj (Nat.not_lt_zero j))
/-- what a spring changes -/
def mp_ (k j : Nat) : Bool := mu_ k j || (k == 65 || k == 66 || k == 68)
theorem mp_nr : ∀ k j, nr_s k j = false → mp_ k j = false := by
  intro k j h
  unfold mp_
  rw [mu_nr k j h]
  cases h65 : k == 65 with
  | true => rw [show k = 65 by simpa using h65] at h; cases h
  | false =>
    cases h66 : k == 66 with
    | true => rw [show k = 66 by simpa using h66] at h; cases h
    | false =>
      cases h68 : k == 68 with
      | true => rw [show k = 68 by simpa using h68] at h; cases h
      | false => rfl
theorem mp_mo {b : Nat} : ∀ k j, mp_ k j = false → mo_ b k j = false := by
  intro k j h
  unfold mp_ at h
  have h1 := Bool.or_eq_false_iff.mp h
  have h2 := Bool.or_eq_false_iff.mp (Bool.or_eq_false_iff.mp h1.2).1
  unfold mo_
  rw [h1.1, h2.1, h2.2]
  rfl
theorem mp_mu : ∀ k j, mp_ k j = false → mu_ k j = false := fun k j h => (Bool.or_eq_false_iff.mp h).1
def sr_Q (dy : List mm_Sh) (g : Nat → Nat → Int32) (r : (Nat → Nat → Int64) × Nat × (Nat → Int32)) (C : Nat → List Int32) (T : sp_T) (ag : Nat → Nat) (c : Nat) (pl : Nat → Option Nat) (on off : Nat) : Option Value → mm_Hp → Prop := fun v h' => v = none ∧ ∃ g' r', h' = (hp_SH ++ dy, g', r') ∧ r'.2 = r.2 ∧ fr_ mp_ g g' ∧ (∀ i, g' 64 i = g 64 i) ∧ nh_ C ag g' ∧ rw_ g' 6 (sp_run T (sp_H C ag c) pl on off 6) ∧ ∀ j, j < 6 → g' 68 j = nI (sp_has T (sp_run T (sp_H C ag c) pl on off (j + 1)).2 j)
theorem sr_go (dy : List mm_Sh) (g P : Nat → Nat → Int32) (r : (Nat → Nat → Int64) × Nat × (Nat → Int32)) (hP : nr_ g = P) {C : Nat → List Int32} (hR : rt_M P C) {T : sp_T} (hL : rl_LM T P) {ag : Nat → Nat} {c on off : Nat} {pl : Nat → Option Nat} (hc : c < 6) (hon : on ≤ 6) (hoff : off ≤ 6) (hpl : ∀ b, b < 6 → g 67 b = pl_c (pl b)) (hpo : ∀ b l, b < 6 → pl b = some l → l < T.1) (hag : P 61 c = nI (ag c)) : ∀ (m k : Nat) (g1 : Nat → Nat → Int32) (r1 : (Nat → Nat → Int64) × Nat × (Nat → Int32)), k + m = 6 → r1.2 = r.2 → fr_ mp_ g g1 → (∀ i, g1 64 i = g 64 i) → nh_ C ag g1 → rw_ g1 k (sp_run T (sp_H C ag c) pl on off k) → (∀ j, j < k → g1 68 j = nI (sp_has T (sp_run T (sp_H C ag c) pl on off (j + 1)).2 j)) → mm_W 59 M_Mo_spring 0 0 (sr_Q dy g r C T ag c pl on off) 0 0 (7, [some (.ref 52), some (.int (nI c)), some (.int (nI on)), some (.int (nI off)), some (.int (nI k))], [], (hp_SH ++ dy, g1, r1)) := by
  intro m
  induction m with
  | zero =>
    intro k g1 r1 hk hr hF h64 hnh hrw h68
    have hk : k = 6 := hk
    refine mm_I ok_Mo_spring 4 2 11 [some (.ref 52), some (.int (nI c)), some (.int (nI on)), some (.int (nI off)), some (.int (nI k))] [.int 6, .int (nI k)] (hp_SH ++ dy, g1, r1) [] rfl trivial rfl rfl (fun _ => ?_) (fun q => False.elim (q (nI_le (a := 6) (by omega) (by omega))))
    exact mm_r0 rfl (mm_at ok_Mo_spring (i := 34) rfl).1 ⟨Nat.le_refl _, Nat.le_refl _⟩ (⟨rfl, g1, r1, rfl, hr, hF, h64, hnh, by rw [← hk]; exact hrw, fun j hj => h68 j (by omega)⟩)
  | succ m ih =>
    intro k g1 r1 hk hr hF h64 hnh hrw h68
    have hP1 := hF.nr mp_nr hP
    have hk5 : k < 6 := by omega
    have epl : g1 67 (nI k).toNatClampNeg = pl_c (pl k) := by rw [nI_clamp (by omega), hF 67 k rfl]; exact hpl k hk5
    have hin : f_Mo_in (nI k).toInt64 (nI on).toInt64 (nI off).toInt64 = if on ≤ k ∧ k ≤ off then 1 else 0 := by
      rw [in_ok]
      simp only [nI_leI (show on < 2 ^ 31 by omega) (show k < 2 ^ 31 by omega), nI_leI (show k < 2 ^ 31 by omega) (show off < 2 ^ 31 by omega)]
    have hle := sp_run_le T (sp_H C ag c) pl on off k
    have hle1 := sp_run_le T (sp_H C ag c) pl on off (k + 1)
    have hstep : sp_run T (sp_H C ag c) pl on off (k + 1) = if (if on ≤ k ∧ k ≤ off then (1 : Int32) else 0) = 1 then sp_stp T (sp_H C ag c) k (pl k) (sp_run T (sp_H C ag c) pl on off k) else sp_run T (sp_H C ag c) pl on off k := by
      simp only [sp_run]
      by_cases hb : on ≤ k ∧ k ≤ off
      · rw [if_pos hb, if_pos hb, if_pos rfl]
      · rw [if_neg hb, if_neg hb, if_neg (by decide)]
    refine mm_I ok_Mo_spring 4 2 11 [some (.ref 52), some (.int (nI c)), some (.int (nI on)), some (.int (nI off)), some (.int (nI k))] [.int 6, .int (nI k)] (hp_SH ++ dy, g1, r1) [] rfl trivial rfl rfl (fun q => False.elim (absurd q (nI_ge (b := 6) hk5 (by decide)))) (fun _ => ?_)
    refine mm_B ok_Mo_spring 7 13 (32, [some (.ref 52), some (.int (nI c)), some (.int (nI on)), some (.int (nI off)), some (.int (nI k))], [.long ((nI off)).toInt64, .long ((nI on)).toInt64, .long ((nI k)).toInt64, .int (g1 67 ((nI k).toNatClampNeg)), .int (nI c), .int (nI k), .ref 52], (hp_SH ++ dy, g1, r1)) [vp_in (nI k) 6] rfl (show vp_in (nI k) 6 from (nI_vi hk5 (by decide))) ?_
    rw [epl]
    refine mm_cS (as := [.long ((nI k)).toInt64, .long ((nI on)).toInt64, .long ((nI off)).toInt64]) (st := [.int (pl_c (pl k)), .int (nI c), .int (nI k), .ref 52]) cw_Mo_in lk_Mo_100 sx_Mo_in (mm_at ok_Mo_spring (i := 20) rfl).1 (ct_Mo_in (hp_SH ++ dy, g1, r1) (nI k).toInt64 (nI on).toInt64 (nI off).toInt64) (by decide) ⟨by omega, by omega⟩ (Nat.le_of_ble_eq_true rfl) (mm_vs_b (b := 77) rfl (hp_len dy)) (fun v h' hqq => ?_)
    obtain ⟨rfl, hqe⟩ := hqq; rw [hqe, hin]
    refine mm_cV (as := [.int (nI k), .int (nI c), .int (pl_c (pl k)), .int (if on ≤ k ∧ k ≤ off then 1 else 0)]) (st := []) (q := 52) cw_Mo_passes lk_Mo_280 in_Mo_passes sl_Mo_passes rfl rfl (mm_at ok_Mo_spring (i := 21) rfl).1 (ct_Mo_passes dy g1 P r1 hP1 hR hL hk5 hc (fun l hl => hpo k l hk5 hl) (fun i hi => hle i hi) hag (by split; exact Or.inr rfl; exact Or.inl rfl) hnh hrw) (by decide) ⟨by omega, by omega⟩ (Nat.le_of_ble_eq_true rfl) (mm_vs_b (b := 77) rfl (hp_len dy)) (fun v h' hqq => ?_)
    obtain ⟨rfl, g2, r2, hqe, hr2, hF2, h264, hnh2, hrw2⟩ := hqq; rw [hqe]
    rw [← hstep] at hrw2
    have hF02 : fr_ mp_ g g2 := hF.tr (hF2.mono mp_mo)
    have hP2 := hF02.nr mp_nr hP
    have h68' : ∀ j, g2 68 j = g1 68 j := fun j => hF2 68 j (by unfold mo_; rfl)
    refine mm_B ok_Mo_spring 22 8 (51, [some (.ref 52), some (.int (nI c)), some (.int (nI on)), some (.int (nI off)), some (.int (nI k))], [.int (nI k), .int ((nI k) + 1), .ref 52, .int (nI k), .ref 68], (hp_SH ++ dy, g2, r2)) [] rfl trivial ?_
    rw [nI_1]
    refine mm_cV (as := [.int (nI (k + 1)), .int (nI k)]) (st := [.int (nI k), .ref 68]) (q := 52) cw_Mo_hasBy lk_Mo_267 in_Mo_hasBy sl_Mo_hasBy rfl rfl (mm_at ok_Mo_spring (i := 30) rfl).1 (ct_Mo_hasBy dy g2 P r2 hP2 hL (a := k + 1) (b := k) (by omega) hk5 (fun i hi => ⟨by have := hle1 i (by have := hL.2.1; omega); omega, by have := hle1 i (by have := hL.2.1; omega); omega, (hrw2 i (by have := hL.2.1; omega)).2⟩)) (by decide) ⟨by omega, by omega⟩ (Nat.le_of_ble_eq_true rfl) (mm_vs_b (b := 77) rfl (hp_len dy)) (fun v h' hqq => ?_)
    obtain ⟨rfl, hqe⟩ := hqq; rw [hqe]
    refine mm_B ok_Mo_spring 31 3 (7, [some (.ref 52), some (.int (nI c)), some (.int (nI on)), some (.int (nI off)), some (.int ((nI k) + 1))], [], (hp_SH ++ dy, mm_up g2 68 ((nI k).toNatClampNeg) (nI (sp_has T (sp_run T (sp_H C ag c) pl on off (k + 1)).2 k)), r2)) [vp_in (nI k) 6] rfl (show vp_in (nI k) 6 from (nI_vi hk5 (by decide))) ?_
    rw [nI_1, nI_clamp (show k < 2 ^ 31 by omega)]
    exact ih (k + 1) _ _ (by omega) (hr2.trans hr) (hF02.up _ rfl) (fun i => (h264 i).trans (h64 i)) (nh_fr hnh2 (fun _ => rfl)) hrw2 (fun j hj => by
      by_cases e : j = k
      · rw [e, mm_up_at]
      · rw [mm_up_no e, h68']; exact h68 j (by omega))
theorem ct_Mo_spring (dy : List mm_Sh) (g P : Nat → Nat → Int32) (r : (Nat → Nat → Int64) × Nat × (Nat → Int32)) (hP : nr_ g = P) {C : Nat → List Int32} (hR : rt_M P C) {T : sp_T} (hL : rl_LM T P) {ag : Nat → Nat} {c on off : Nat} {pl : Nat → Option Nat} (hc : c < 6) (hon : on ≤ 6) (hoff : off ≤ 6) (hpl : ∀ b, b < 6 → g 67 b = pl_c (pl b)) (hpo : ∀ b l, b < 6 → pl b = some l → l < T.1) (hag : P 61 c = nI (ag c)) (hnh : nh_ C ag g) : mm_Ct 59 M_Mo_spring [.ref 52, .int (nI c), .int (nI on), .int (nI off)] (hp_SH ++ dy, g, r) 0 0 (sr_Q dy g r C T ag c pl on off) := by
  refine mm_start pl_Mo (Nat.le_of_ble_eq_true rfl) ?_
  refine mm_B ok_Mo_spring 0 1 (1, [some (.ref 52), some (.int (nI c)), some (.int (nI on)), some (.int (nI off)), none], [.ref 52], (hp_SH ++ dy, g, r)) [] rfl trivial ?_
  refine mm_cV (as := []) (st := []) (q := 52) cw_Mo_begins lk_Mo_277 in_Mo_begins sl_Mo_begins rfl rfl (mm_at ok_Mo_spring (i := 1) rfl).1 (ct_Mo_begins dy g r) (by decide) ⟨by omega, by omega⟩ (Nat.le_of_ble_eq_true rfl) (mm_vs_b (b := 77) rfl (hp_len dy)) (fun v h' hqq => ?_)
  obtain ⟨rfl, g1, hqe, hF1, hN1, hrw1⟩ := hqq; rw [hqe]
  refine mm_B ok_Mo_spring 2 2 (7, [some (.ref 52), some (.int (nI c)), some (.int (nI on)), some (.int (nI off)), some (.int 0)], [], (hp_SH ++ dy, g1, r)) [] rfl trivial ?_
  exact sr_go dy g P r hP hR hL hc hon hoff hpl hpo hag 6 0 g1 r (by omega) rfl (hF1.mono mp_mo) (fun i => (hN1 i).2) (nh_fr hnh (fun i => (hN1 i).1)) hrw1 (fun j hj => absurd hj (Nat.not_lt_zero j))

