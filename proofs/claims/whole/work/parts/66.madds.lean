/-! ===== the model: adds, seeks ===== -/
theorem d1_lt : ∀ d, d < 7 → ∀ t, t < 6 → (nI t ≤ nI d - 1 ↔ t + 1 ≤ d) := by decide
theorem d1_add (a d : Nat) : nI a + (nI d - 1) + 1 = nI (a + d) := by
  rw [Int32.add_assoc, Int32.sub_add_cancel, nI_add]
theorem d1_inc (d : Nat) : nI d - 1 + 1 = nI (d + 1) - 1 := by rw [Int32.sub_add_cancel, nI_pred]
/-- sums, and the rows behind b *-/
def mv_ (b k j : Nat) : Bool := mu_ k j || (k == 69 || ((k == 65 || k == 66) && Nat.ble (4 * b + 4) j))
theorem mv_mu {b : Nat} : ∀ k j, mv_ b k j = false → mu_ k j = false := fun k j h => (Bool.or_eq_false_iff.mp h).1
theorem mv_nr {b : Nat} : ∀ k j, nr_s k j = false → mv_ b k j = false := by
  intro k j h
  unfold mv_
  rw [mu_nr k j h]
  cases h69 : k == 69 with
  | true => rw [show k = 69 by simpa using h69] at h; cases h
  | false =>
    cases h65 : k == 65 with
    | true => rw [show k = 65 by simpa using h65] at h; cases h
    | false =>
      cases h66 : k == 66 with
      | true => rw [show k = 66 by simpa using h66] at h; cases h
      | false => rfl
theorem mv_row {b l k : Nat} (hl : l < 4) (hk : k = 65 ∨ k = 66) : mv_ b k (4 * b + l) = false := by
  unfold mv_ mu_ mj_
  have h1 : Nat.ble (4 * b + 4) (4 * b + l) = false := by
    cases h : Nat.ble (4 * b + 4) (4 * b + l) with
    | false => rfl
    | true => have := Nat.le_of_ble_eq_true h; omega
  rw [h1]
  rcases hk with rfl | rfl <;> simp
theorem mv_mo {b : Nat} : ∀ k j, mv_ b k j = false → mo_ (b + 1) k j = false := by
  intro k j h
  unfold mv_ at h
  have h1 := Bool.or_eq_false_iff.mp h
  have h2 := Bool.or_eq_false_iff.mp h1.2
  unfold mo_
  rw [h1.1]
  cases h0 : (k == 65 || k == 66) with
  | false => rfl
  | true =>
    rw [h0] at h2
    have h3 : Nat.ble (4 * b + 4) j = false := by simpa using h2.2
    rw [show 4 * (b + 1) = 4 * b + 4 by omega, h3]
    rfl
theorem mv_mv {b : Nat} : ∀ k j, mv_ b k j = false → mv_ (b + 1) k j = false := by
  intro k j h
  unfold mv_ at h ⊢
  have h1 := Bool.or_eq_false_iff.mp h
  have h2 := Bool.or_eq_false_iff.mp h1.2
  rw [h1.1, h2.1]
  cases h0 : (k == 65 || k == 66) with
  | false => rfl
  | true =>
    rw [h0] at h2
    have h3 : Nat.ble (4 * b + 4) j = false := by simpa using h2.2
    have h4 : Nat.ble (4 * (b + 1) + 4) j = false := by
      cases h : Nat.ble (4 * (b + 1) + 4) j with
      | false => rfl
      | true =>
        have := Nat.le_of_ble_eq_true h
        rw [Nat.ble_eq_true_of_le (by omega)] at h3
        cases h3
    rw [h4]
    rfl
/-- child c's springs by codes -/
noncomputable abbrev rc_ (T : sp_T) (C : Nat → List Int32) (K : sp_K) (c b x : Nat) : sp_C := rp_ T (sp_H C K.2.2.2 c) (K.2.1 c) (K.2.2.1 c) (T.1 + 1) b x
def ad_Q (dy : List mm_Sh) (g : Nat → Nat → Int32) (r : (Nat → Nat → Int64) × Nat × (Nat → Int32)) (C : Nat → List Int32) (ag : Nat → Nat) (b lo hi : Nat) (pt : Nat → Nat) : Option Value → mm_Hp → Prop := fun v h' => v = none ∧ ∃ g' r', h' = (hp_SH ++ dy, g', r') ∧ r'.2 = r.2 ∧ fr_ (mv_ b) g g' ∧ nh_ C ag g' ∧ nw_ C ag g' ∧ ∀ y, g' 69 y = if lo ≤ y ∧ y < hi then g 69 y + nI (pt y) else g 69 y
theorem ad_5 {N b x : Nat} (hN : N ≤ 5) (hN0 : 0 < N) (hx : x < N ^ b) {m : Nat} (hb : b + m = 6) : (x + 1) * N ^ m ≤ 15625 := by
  have h1 : (x + 1) * N ^ m ≤ N ^ b * N ^ m := Nat.mul_le_mul_right _ hx
  rw [← Nat.pow_add, hb] at h1
  have h2 : N ^ 6 ≤ 5 ^ 6 := Nat.pow_le_pow_left hN 6
  omega
theorem ad_up {g g1 : Nat → Nat → Int32} {x y T1 : Nat} {pt : Nat → Nat} (hF : fr_ mu_ g g1) : mm_up g1 69 x (g 69 x + nI (pt x)) 69 y = if x * (T1 + 1) ^ 0 ≤ y ∧ y < (x + 1) * (T1 + 1) ^ 0 then g 69 y + nI (pt y) else g 69 y := by
  rw [Nat.pow_zero, Nat.mul_one, Nat.mul_one]
  by_cases e : y = x
  · subst e
    rw [mm_up_at, if_pos (by omega)]
  · rw [mm_up_no e, if_neg (by omega)]
    exact hF 69 y rfl
theorem ad_lp (dy : List mm_Sh) (g P : Nat → Nat → Int32) (r : (Nat → Nat → Int64) × Nat × (Nat → Int32)) (hP : nr_ g = P) {C : Nat → List Int32} (hR : rt_M P C) {T : sp_T} (hL : rl_LM T P) {K : sp_K} {c : Nat} (hK : rl_CM K P) (hc : c < K.1) {b m x : Nat} (hb : b + (m + 1) = 6) (hx : x < (T.1 + 1) ^ b) (IH : ∀ (x : Nat) (g : Nat → Nat → Int32) (r : (Nat → Nat → Int64) × Nat × (Nat → Int32)), nr_ g = P → x < (T.1 + 1) ^ (b + 1) → nh_ C K.2.2.2 g → nw_ C K.2.2.2 g → rw_ g (b + 1) (rc_ T C K c (b + 1) x) → mm_Ct (60 + m) M_Mo_adds [.ref 52, .int (nI (b + 1)), .int (nI c), .int (nI x)] (hp_SH ++ dy, g, r) 0 0 (ad_Q dy g r C K.2.2.2 (b + 1) (x * (T.1 + 1) ^ m) ((x + 1) * (T.1 + 1) ^ m) (fun y => pt6 T C K (T.1 + 1) y c))) (hrw : rw_ g b (rc_ T C K c b x)) : ∀ (e d : Nat) (g1 : Nat → Nat → Int32) (r1 : (Nat → Nat → Int64) × Nat × (Nat → Int32)), d + e = T.1 + 1 → r1.2 = r.2 → fr_ (mv_ b) g g1 → nh_ C K.2.2.2 g1 → nw_ C K.2.2.2 g1 → (∀ y, g1 69 y = if x * (T.1 + 1) ^ (m + 1) ≤ y ∧ y < x * (T.1 + 1) ^ (m + 1) + d * (T.1 + 1) ^ m then g 69 y + nI (pt6 T C K (T.1 + 1) y c) else g 69 y) → mm_W (61 + m) M_Mo_adds 0 0 (ad_Q dy g r C K.2.2.2 b (x * (T.1 + 1) ^ (m + 1)) ((x + 1) * (T.1 + 1) ^ (m + 1)) (fun y => pt6 T C K (T.1 + 1) y c)) 0 0 (24, [some (.ref 52), some (.int (nI b)), some (.int (nI c)), some (.int (nI x)), some (.int (nI d - 1))], [], (hp_SH ++ dy, g1, r1)) := by
  have h4 := hL.2.1
  obtain ⟨h14, h6, hcs⟩ := hK
  obtain ⟨k1, k2, k3, k4, k5⟩ := hcs c hc
  intro e
  induction e with
  | zero =>
    intro d g1 r1 hd hr hF hnh hnw hs
    have hd : d = T.1 + 1 := hd
    have e10 : g1 52 10 = nI T.1 := by rw [nr_at (hF.nr mv_nr hP) 52 10 rfl]; exact hL.1
    refine mm_B ok_Mo_adds 16 3 (30, [some (.ref 52), some (.int (nI b)), some (.int (nI c)), some (.int (nI x)), some (.int (nI d - 1))], [.int (g1 52 10), .int (nI d - 1)], (hp_SH ++ dy, g1, r1)) [] rfl trivial ?_
    rw [e10]
    refine mm_I ok_Mo_adds 19 0 30 [some (.ref 52), some (.int (nI b)), some (.int (nI c)), some (.int (nI x)), some (.int (nI d - 1))] [.int (nI T.1), .int (nI d - 1)] (hp_SH ++ dy, g1, r1) [] rfl trivial rfl rfl (fun _ => ?_) (fun q => False.elim (q ((d1_lt d (by omega) T.1 (by omega)).mpr (by omega))))
    have hhi : x * (T.1 + 1) ^ (m + 1) + d * (T.1 + 1) ^ m = (x + 1) * (T.1 + 1) ^ (m + 1) := by
      rw [hd, Nat.add_mul x 1, Nat.one_mul, Nat.pow_succ, Nat.mul_comm (T.1 + 1) ((T.1 + 1) ^ m)]
    rw [hhi] at hs
    exact mm_r0 rfl (mm_at ok_Mo_adds (i := 56) rfl).1 ⟨Nat.le_refl _, Nat.le_refl _⟩ (⟨rfl, g1, r1, rfl, hr, hF, hnh, hnw, hs⟩)
  | succ e ih =>
    intro d g1 r1 hd hr hF hnh hnw hs
    have hP1 := hF.nr mv_nr hP
    have e10 : g1 52 10 = nI T.1 := by rw [nr_at hP1 52 10 rfl]; exact hL.1
    have e59 : g1 59 (nI c).toNatClampNeg = nI (K.2.1 c) := by rw [nI_clamp (by omega), nr_at hP1 59 c rfl]; exact k1
    have e60 : g1 60 (nI c).toNatClampNeg = nI (K.2.2.1 c) := by rw [nI_clamp (by omega), nr_at hP1 60 c rfl]; exact k2
    have hin : f_Mo_in (nI b).toInt64 (nI (K.2.1 c)).toInt64 (nI (K.2.2.1 c)).toInt64 = if K.2.1 c ≤ b ∧ b ≤ K.2.2.1 c then 1 else 0 := by
      rw [in_ok]
      simp only [nI_leI (show K.2.1 c < 2 ^ 31 by omega) (show b < 2 ^ 31 by omega), nI_leI (show b < 2 ^ 31 by omega) (show K.2.2.1 c < 2 ^ 31 by omega)]
    have hrw1 : rw_ g1 b (rc_ T C K c b x) := fun i hi => by rw [hF 65 _ (mv_row hi (Or.inl rfl)), hF 66 _ (mv_row hi (Or.inr rfl))]; exact hrw i hi
    have hdT : d < T.1 + 1 := by omega
    have hol : ∀ l, dg0 d = some l → l < T.1 := by
      intro l hl
      cases d with
      | zero => cases hl
      | succ d => cases hl; omega
    have hpas := ct_Mo_passes dy g1 P r1 hP1 hR hL (ag := K.2.2.2) (b := b) (c := c) (cs := rc_ T C K c b x) (ol := dg0 d) (z := if K.2.1 c ≤ b ∧ b ≤ K.2.2.1 c then 1 else 0) (by omega) (by omega) hol (fun i hi => rp_le b x i hi) k5 (by split; exact Or.inr rfl; exact Or.inl rfl) hnh hrw1
    rw [pl_dg] at hpas
    have hstep : (if (if K.2.1 c ≤ b ∧ b ≤ K.2.2.1 c then (1 : Int32) else 0) = 1 then sp_stp T (sp_H C K.2.2.2 c) b (dg0 d) (rc_ T C K c b x) else rc_ T C K c b x) = rc_ T C K c (b + 1) (x * (T.1 + 1) + d) := by
      unfold rc_
      rw [rp_st hdT]
      by_cases hbb : K.2.1 c ≤ b ∧ b ≤ K.2.2.1 c
      · rw [if_pos hbb, if_pos rfl, if_pos hbb]
      · rw [if_neg hbb, if_neg (by decide), if_neg hbb]
    rw [hstep] at hpas
    have hx1 : x * (T.1 + 1) + d < (T.1 + 1) ^ (b + 1) := by
      rw [Nat.pow_succ]
      have : (x + 1) * (T.1 + 1) ≤ (T.1 + 1) ^ b * (T.1 + 1) := Nat.mul_le_mul_right _ hx
      rw [Nat.add_mul, Nat.one_mul] at this
      omega
    refine mm_B ok_Mo_adds 16 3 (30, [some (.ref 52), some (.int (nI b)), some (.int (nI c)), some (.int (nI x)), some (.int (nI d - 1))], [.int (g1 52 10), .int (nI d - 1)], (hp_SH ++ dy, g1, r1)) [] rfl trivial ?_
    rw [e10]
    refine mm_I ok_Mo_adds 19 0 30 [some (.ref 52), some (.int (nI b)), some (.int (nI c)), some (.int (nI x)), some (.int (nI d - 1))] [.int (nI T.1), .int (nI d - 1)] (hp_SH ++ dy, g1, r1) [] rfl trivial rfl rfl (fun q => False.elim (absurd ((d1_lt d (by omega) T.1 (by omega)).mp q) (by omega))) (fun _ => ?_)
    refine mm_B ok_Mo_adds 20 16 (54, [some (.ref 52), some (.int (nI b)), some (.int (nI c)), some (.int (nI x)), some (.int (nI d - 1))], [.long ((g1 60 ((nI c).toNatClampNeg))).toInt64, .long ((g1 59 ((nI c).toNatClampNeg))).toInt64, .long ((nI b)).toInt64, .int (nI d - 1), .int (nI c), .int (nI b), .ref 52], (hp_SH ++ dy, g1, r1)) [vp_in (nI c) 6, vp_in (nI c) 6] rfl (show (vp_in (nI c) 6) ∧ (vp_in (nI c) 6) from ⟨(nI_vi (by omega) (by decide)), (nI_vi (by omega) (by decide))⟩) ?_
    rw [e59]
    rw [e60]
    refine mm_cS (as := [.long ((nI b)).toInt64, .long ((nI (K.2.1 c))).toInt64, .long ((nI (K.2.2.1 c))).toInt64]) (st := [.int (nI d - 1), .int (nI c), .int (nI b), .ref 52]) cw_Mo_in lk_Mo_100 sx_Mo_in (mm_at ok_Mo_adds (i := 36) rfl).1 (ct_Mo_in (hp_SH ++ dy, g1, r1) (nI b).toInt64 (nI (K.2.1 c)).toInt64 (nI (K.2.2.1 c)).toInt64) (by omega) ⟨by omega, by omega⟩ (Nat.le_of_ble_eq_true rfl) (mm_vs_b (b := 77) rfl (hp_len dy)) (fun v h' hqq => ?_)
    obtain ⟨rfl, hqe⟩ := hqq; rw [hqe, hin]
    refine mm_cV (as := [.int (nI b), .int (nI c), .int (nI d - 1), .int (if K.2.1 c ≤ b ∧ b ≤ K.2.2.1 c then 1 else 0)]) (st := []) (q := 52) cw_Mo_passes lk_Mo_280 in_Mo_passes sl_Mo_passes rfl rfl (mm_at ok_Mo_adds (i := 37) rfl).1 (hpas) (by omega) ⟨by omega, by omega⟩ (Nat.le_of_ble_eq_true rfl) (mm_vs_b (b := 77) rfl (hp_len dy)) (fun v h' hqq => ?_)
    obtain ⟨rfl, g2, r2, hqe, hr2, hF2, h264, hnh2, hrw2⟩ := hqq; rw [hqe]
    have hF02 : fr_ (mv_ b) g g2 := hF.tr (hF2.mono mv_mo)
    have hP2 := hF02.nr mv_nr hP
    have e10' : g2 52 10 = nI T.1 := by rw [nr_at hP2 52 10 rfl]; exact hL.1
    have h69' : ∀ y, g2 69 y = g1 69 y := fun y => hF2 69 y rfl
    refine mm_B ok_Mo_adds 38 15 (78, [some (.ref 52), some (.int (nI b)), some (.int (nI c)), some (.int (nI x)), some (.int (nI d - 1))], [.int ((((nI x) * ((g2 52 10) + 1)) + (nI d - 1)) + 1), .int (nI c), .int ((nI b) + 1), .ref 52], (hp_SH ++ dy, g2, r2)) [] rfl trivial ?_
    rw [e10', nI_1, nI_1, nI_mul, d1_add]
    refine mm_cV (as := [.int (nI (b + 1)), .int (nI c), .int (nI (x * (T.1 + 1) + d))]) (st := []) (q := 52) cw_Mo_adds lk_Mo_307 in_Mo_adds sl_Mo_adds rfl rfl (mm_at ok_Mo_adds (i := 53) rfl).1 (IH (x * (T.1 + 1) + d) g2 r2 hP2 hx1 hnh2 (nw_fr hnw h264) hrw2) (by omega) ⟨by omega, by omega⟩ (Nat.le_of_ble_eq_true rfl) (mm_vs_b (b := 77) rfl (hp_len dy)) (fun v h' hqq => ?_)
    obtain ⟨rfl, g3, r3, hqe, hr3, hF3, hnh3, hnw3, hs3⟩ := hqq; rw [hqe]
    refine mm_B ok_Mo_adds 54 2 (24, [some (.ref 52), some (.int (nI b)), some (.int (nI c)), some (.int (nI x)), some (.int ((nI d - 1) + 1))], [], (hp_SH ++ dy, g3, r3)) [] rfl trivial ?_
    rw [d1_inc]
    refine ih (d + 1) g3 r3 (by omega) ((hr3.trans hr2).trans hr) (hF02.tr (hF3.mono mv_mv)) hnh3 hnw3 (fun y => ?_)
    have hlo : (x * (T.1 + 1) + d) * (T.1 + 1) ^ m = x * (T.1 + 1) ^ (m + 1) + d * (T.1 + 1) ^ m := by
      rw [Nat.add_mul, Nat.pow_succ, Nat.mul_assoc, Nat.mul_comm (T.1 + 1) ((T.1 + 1) ^ m)]
    have hhi : (x * (T.1 + 1) + d + 1) * (T.1 + 1) ^ m = x * (T.1 + 1) ^ (m + 1) + (d + 1) * (T.1 + 1) ^ m := by
      rw [Nat.add_assoc, Nat.add_mul, Nat.pow_succ, Nat.mul_assoc, Nat.mul_comm (T.1 + 1) ((T.1 + 1) ^ m)]
    rw [hs3 y, h69', hs y, hlo, hhi]
    have hd1 : (d + 1) * (T.1 + 1) ^ m = d * (T.1 + 1) ^ m + (T.1 + 1) ^ m := by rw [Nat.add_mul, Nat.one_mul]
    rw [hd1]
    generalize x * (T.1 + 1) ^ (m + 1) = A
    generalize d * (T.1 + 1) ^ m = D
    generalize (T.1 + 1) ^ m = M
    by_cases c1 : A ≤ y ∧ y < A + D
    · rw [if_neg (by omega), if_pos c1, if_pos (by omega)]
    · by_cases c2 : A + D ≤ y ∧ y < A + (D + M)
      · rw [if_pos c2, if_neg c1, if_pos (by omega)]
      · rw [if_neg c2, if_neg c1, if_neg (by omega)]
theorem ct_Mo_adds (dy : List mm_Sh) (P : Nat → Nat → Int32) {C : Nat → List Int32} (hR : rt_M P C) {T : sp_T} (hL : rl_LM T P) {K : sp_K} {c : Nat} (hK : rl_CM K P) (hc : c < K.1) : ∀ (m b : Nat) (x : Nat) (g : Nat → Nat → Int32) (r : (Nat → Nat → Int64) × Nat × (Nat → Int32)), b + m = 6 → nr_ g = P → x < (T.1 + 1) ^ b → nh_ C K.2.2.2 g → nw_ C K.2.2.2 g → rw_ g b (rc_ T C K c b x) → mm_Ct (60 + m) M_Mo_adds [.ref 52, .int (nI b), .int (nI c), .int (nI x)] (hp_SH ++ dy, g, r) 0 0 (ad_Q dy g r C K.2.2.2 b (x * (T.1 + 1) ^ m) ((x + 1) * (T.1 + 1) ^ m) (fun y => pt6 T C K (T.1 + 1) y c)) := by
  have h4 := hL.2.1
  have h6 := hK.2.1
  have k5 := (hK.2.2 c hc).2.2.2.2
  intro m
  induction m with
  | zero =>
    intro b x g r hb hP hx hnh hnw hrw
    have hb : b = 6 := hb
    subst hb
    have h15 := ad_5 (N := T.1 + 1) (by omega) (by omega) hx (m := 0) rfl
    rw [Nat.pow_zero, Nat.mul_one] at h15
    refine mm_start pl_Mo (Nat.le_of_ble_eq_true rfl) ?_
    refine mm_I ok_Mo_adds 0 2 3 [some (.ref 52), some (.int (nI 6)), some (.int (nI c)), some (.int (nI x)), none] [.int 6, .int (nI 6)] (hp_SH ++ dy, g, r) [] rfl trivial rfl rfl (fun q => False.elim (absurd rfl q)) (fun _ => ?_)
    refine mm_B ok_Mo_adds 3 7 (15, [some (.ref 52), some (.int (nI 6)), some (.int (nI c)), some (.int (nI x)), none], [.int (nI c), .ref 52, .int (g 69 ((nI x).toNatClampNeg)), .int (nI x), .ref 69], (hp_SH ++ dy, g, r)) [vp_in (nI x) 15625] rfl (show vp_in (nI x) 15625 from (nI_vi (by omega) (by decide))) ?_
    rw [nI_clamp (show x < 2 ^ 31 by omega)]
    refine mm_cV (as := [.int (nI c)]) (st := [.int (g 69 x), .int (nI x), .ref 69]) (q := 52) cw_Mo_endPoints lk_Mo_292 in_Mo_endPoints sl_Mo_endPoints rfl rfl (mm_at ok_Mo_adds (i := 10) rfl).1 (ct_Mo_endPoints dy g P r hP hR hL (ag := K.2.2.2) (c := c) (by omega) k5 (fun i hi => rp_le 6 x i hi) hnw hrw) (by decide) ⟨by omega, by omega⟩ (Nat.le_of_ble_eq_true rfl) (mm_vs_b (b := 77) rfl (hp_len dy)) (fun v h' hqq => ?_)
    obtain ⟨rfl, g1, r1, hqe, hr1, hF1, h163, hnw1⟩ := hqq; rw [hqe, show nI (sp_sum (sp_pt T (sp_W C K.2.2.2 c) (rc_ T C K c 6 x)) T.1) = nI (pt6 T C K (T.1 + 1) x c) from rfl]
    refine mm_B ok_Mo_adds 11 2 (20, [some (.ref 52), some (.int (nI 6)), some (.int (nI c)), some (.int (nI x)), none], [], (hp_SH ++ dy, mm_up g1 69 ((nI x).toNatClampNeg) ((g 69 x) + (nI (pt6 T C K (T.1 + 1) x c))), r1)) [vp_in (nI x) 15625] rfl (show vp_in (nI x) 15625 from (nI_vi (by omega) (by decide))) ?_
    rw [nI_clamp (show x < 2 ^ 31 by omega)]
    exact mm_r0 rfl (mm_at ok_Mo_adds (i := 13) rfl).1 ⟨Nat.le_refl _, Nat.le_refl _⟩ (⟨rfl, _, r1, rfl, hr1, (hF1.mono mv_mu).up _ (by unfold mv_ mu_; rfl), nh_fr hnh h163, nw_fr hnw1 (fun _ => rfl), fun y => ad_up (T1 := T.1) (pt := fun y => pt6 T C K (T.1 + 1) y c) hF1⟩)
  | succ m ih =>
    intro b x g r hb hP hx hnh hnw hrw
    refine mm_start pl_Mo (Nat.le_of_ble_eq_true rfl) ?_
    refine mm_I ok_Mo_adds 0 2 3 [some (.ref 52), some (.int (nI b)), some (.int (nI c)), some (.int (nI x)), none] [.int 6, .int (nI b)] (hp_SH ++ dy, g, r) [] rfl trivial rfl rfl (fun _ => ?_) (fun q => False.elim (absurd ((nI_eq (a := b) (b := 6) (by omega) (by decide)).mp q) (by omega)))
    refine mm_B ok_Mo_adds 14 2 (24, [some (.ref 52), some (.int (nI b)), some (.int (nI c)), some (.int (nI x)), some (.int (-1))], [], (hp_SH ++ dy, g, r)) [] rfl trivial ?_
    have h8 := ad_lp dy g P r hP hR hL hK hc (b := b) (m := m) (x := x) hb hx (fun x g r hP hx hnh hnw hrw => ih (b + 1) x g r (by omega) hP hx hnh hnw hrw) hrw (T.1 + 1) 0 g r (Nat.zero_add _) rfl fr_.rf hnh hnw (fun y => by rw [Nat.zero_mul, if_neg (by omega)])
    rw [show nI 0 - 1 = (-1 : Int32) by decide, show 61 + m = 60 + (m + 1) by omega] at h8
    exact h8

