/-! ===== the model: seeks ===== -/
theorem nI_div {a b : Nat} (ha : a < 2 ^ 31) (hb : b < 2 ^ 31) : nI a / nI b = nI (a / b) := by
  have h1 : a / b < 2 ^ 31 := Nat.lt_of_le_of_lt (Nat.div_le_self a b) ha
  have h2 : (0 : Int) ≤ ((a / b : Nat) : Int) := Int.natCast_nonneg _
  apply Int32.toInt_inj.mp
  rw [Int32.toInt_div, nI_toInt ha, nI_toInt hb, nI_toInt h1, ← Int.ofNat_tdiv, Int.bmod_eq_of_le]
  · omega
  · omega
theorem nI_mod {a b : Nat} (ha : a < 2 ^ 31) (hb : b < 2 ^ 31) : nI a - nI a / nI b * nI b = nI (a % b) := by
  rw [nI_div ha hb, nI_mul, nI_sub (Nat.div_mul_le_self a b)]
  congr 1
  have := Nat.div_add_mod a b
  rw [Nat.mul_comm] at this
  omega
theorem sum_le {f : Nat → Nat} {M : Nat} : ∀ n, (∀ c, c < n → f c ≤ M) → sp_sum f n ≤ n * M
  | 0, _ => by simp [sp_sum]
  | n + 1, h => by
    have h1 := sum_le n (fun c hc => h c (by omega))
    have h2 := h n (by omega)
    simp only [sp_sum]
    rw [Nat.add_mul, Nat.one_mul]
    omega
theorem pt6_le {T : sp_T} {C : Nat → List Int32} {K : sp_K} {N x c : Nat} (h4 : T.1 ≤ 4) (h9 : ∀ l, l < T.1 → T.2.2.1 l ≤ 9) : pt6 T C K N x c ≤ 800 := by
  have h1 : pt6 T C K N x c ≤ T.1 * 200 := sum_le _ (fun l hl => by
    unfold sp_pt
    split
    · omega
    · have : sp_value T l ≤ 100 := sp_vl_le _ _ (h9 l hl)
      unfold sp_gn
      omega)
  have : T.1 * 200 ≤ 4 * 200 := Nat.mul_le_mul_right _ h4
  omega
theorem wt6_le {T : sp_T} {C : Nat → List Int32} {K : sp_K} {N x : Nat} (h4 : T.1 ≤ 4) (h9 : ∀ l, l < T.1 → T.2.2.1 l ≤ 9) (h6 : K.1 ≤ 6) : wt6 T C K N x ≤ 4800 := by
  have h1 : wt6 T C K N x ≤ K.1 * 800 := sum_le _ (fun c _ => pt6_le h4 h9)
  have : K.1 * 800 ≤ 6 * 800 := Nat.mul_le_mul_right _ h6
  omega
def sk_Q (dy : List mm_Sh) (g : Nat → Nat → Int32) (r : (Nat → Nat → Int64) × Nat × (Nat → Int32)) (T : sp_T) (C : Nat → List Int32) (K : sp_K) : Option Value → mm_Hp → Prop := fun v h' => v = none ∧ ∃ g' r', h' = (hp_SH ++ dy, g', r') ∧ r'.2 = r.2 ∧ fr_ mz_ g g' ∧ g' 52 39 = nI (bw_ T C K) ∧ ∀ b, b < 6 → g' 70 b = pl_c (dec_ (T.1 + 1) (bc_ T C K) b)
theorem mz_mo {b : Nat} : ∀ k j, mz_ k j = false → mo_ b k j = false := fun k j h => mp_mo k j (mz_mp k j h)
theorem mz_mu : ∀ k j, mz_ k j = false → mu_ k j = false := fun k j h => mp_mu k j (mz_mp k j h)
theorem mz_mv {b : Nat} : ∀ k j, mz_ k j = false → mv_ b k j = false := by
  intro k j h
  have h1 := mz_mp k j h
  have h2 := (Bool.or_eq_false_iff.mp h).2
  have h69 : (k == 69) = false := (Bool.or_eq_false_iff.mp (Bool.or_eq_false_iff.mp (Bool.or_eq_false_iff.mp (Bool.or_eq_false_iff.mp h2).1).1).1).2
  unfold mp_ at h1
  have h3 := Bool.or_eq_false_iff.mp h1
  have h4 := Bool.or_eq_false_iff.mp (Bool.or_eq_false_iff.mp h3.2).1
  unfold mv_
  rw [h3.1, h69, h4.1, h4.2]
  rfl
theorem s5_go (dy : List mm_Sh) (g P : Nat → Nat → Int32) (r : (Nat → Nat → Int64) × Nat × (Nat → Int32)) (hP : nr_ g = P) {C : Nat → List Int32} (hR : rt_M P C) {T : sp_T} (hL : rl_LM T P) {K : sp_K} (hK : rl_CM K P) (x : Nat) (hx : x < 15625) (all : Int32) : ∀ (m : Nat) (g1 : Nat → Nat → Int32) (r1 : (Nat → Nat → Int64) × Nat × (Nat → Int32)), m ≤ 6 → r1.2 = r.2 → fr_ mz_ g g1 → g1 52 39 = nI (bw_ T C K) → (∀ b, m ≤ b → b < 6 → g1 70 b = pl_c (dec_ (T.1 + 1) x b)) → x = bc_ T C K → mm_W 70 M_Mo_seeks 0 0 (sk_Q dy g r T C K) 0 0 (124, [some (.ref 52), some (.int all), some (.int (nI (x / (T.1 + 1) ^ (6 - m)))), some (.int (nI m - 1))], [], (hp_SH ++ dy, g1, r1)) := by
  have h4 := hL.2.1
  intro m
  induction m with
  | zero =>
    intro g1 r1 hm hr hF h39 h70 hbc
    refine mm_I ok_Mo_seeks 75 1 125 [some (.ref 52), some (.int all), some (.int (nI (x / (T.1 + 1) ^ (6 - 0)))), some (.int (nI 0 - 1))] [.int (nI 0 - 1)] (hp_SH ++ dy, g1, r1) [] rfl trivial rfl rfl (fun _ => ?_) (fun q => False.elim (q (by decide)))
    exact mm_r0 rfl (mm_at ok_Mo_seeks (i := 98) rfl).1 ⟨Nat.le_refl _, Nat.le_refl _⟩ (⟨rfl, g1, r1, rfl, hr, hF, h39, fun b hb => by rw [← hbc]; exact h70 b (Nat.zero_le _) hb⟩)
  | succ m ih =>
    intro g1 r1 hm hr hF h39 h70 hbc
    have e10 : g1 52 10 = nI T.1 := by rw [nr_at (hF.nr mz_nr hP) 52 10 rfl]; exact hL.1
    have hxm : x / (T.1 + 1) ^ (6 - (m + 1)) < 2 ^ 31 := Nat.lt_of_le_of_lt (Nat.div_le_self _ _) (by omega)
    have hdiv : x / (T.1 + 1) ^ (6 - (m + 1)) / (T.1 + 1) = x / (T.1 + 1) ^ (6 - m) := by
      rw [Nat.div_div_eq_div_mul, ← Nat.pow_succ, show (6 - (m + 1)).succ = 6 - m by omega]
    have hdec : nI (x / (T.1 + 1) ^ (6 - (m + 1)) % (T.1 + 1)) - 1 = pl_c (dec_ (T.1 + 1) x m) := by
      unfold dec_
      rw [pl_dg, show 6 - (m + 1) = 5 - m by omega]
    rw [nI_pred]
    refine mm_I ok_Mo_seeks 75 1 125 [some (.ref 52), some (.int all), some (.int (nI (x / (T.1 + 1) ^ (6 - (m + 1))))), some (.int (nI m))] [.int (nI m)] (hp_SH ++ dy, g1, r1) [] rfl trivial rfl rfl (fun q => False.elim (absurd q (Int32.not_lt.mpr (nI_pos' (by omega))))) (fun _ => ?_)
    refine mm_B ok_Mo_seeks 77 21 (124, [some (.ref 52), some (.int all), some (.int ((nI (x / (T.1 + 1) ^ (6 - (m + 1)))) / ((g1 52 10) + 1))), some (.int ((nI m) + (-1)))], [], (hp_SH ++ dy, mm_up g1 70 ((nI m).toNatClampNeg) (((nI (x / (T.1 + 1) ^ (6 - (m + 1)))) - (nI (x / (T.1 + 1) ^ (6 - (m + 1)))) / ((g1 52 10) + 1) * ((g1 52 10) + 1)) - 1), r1)) [¬ ((g1 52 10) + 1) = 0, vp_in (nI m) 6, ¬ ((g1 52 10) + 1) = 0] rfl (show (¬ ((g1 52 10) + 1) = 0) ∧ (vp_in (nI m) 6) ∧ (¬ ((g1 52 10) + 1) = 0) from ⟨(by rw [e10, nI_1]; exact nI_ne0 (by omega) (by omega)), (nI_vi (by omega) (by decide)), (by rw [e10, nI_1]; exact nI_ne0 (by omega) (by omega))⟩) ?_
    rw [e10, nI_1, nI_mod hxm (by omega), nI_div hxm (by omega), hdiv, hdec, nI_clamp (show m < 2 ^ 31 by omega), show nI m + -1 = nI m - 1 from (Int32.sub_eq_add_neg _ _).symm]
    exact ih _ r1 (by omega) hr (hF.up _ (by unfold mz_; simp)) h39 (fun b hb1 hb2 => by
      by_cases e : b = m
      · rw [e, mm_up_at]
      · rw [mm_up_no e]; exact h70 b (by omega) hb2) hbc
theorem s4_go (dy : List mm_Sh) (g P : Nat → Nat → Int32) (r : (Nat → Nat → Int64) × Nat × (Nat → Int32)) (hP : nr_ g = P) {C : Nat → List Int32} (hR : rt_M P C) {T : sp_T} (hL : rl_LM T P) {K : sp_K} (hK : rl_CM K P) : ∀ (m k : Nat) (g1 : Nat → Nat → Int32) (r1 : (Nat → Nat → Int64) × Nat × (Nat → Int32)), k + m + 1 = (T.1 + 1) ^ 6 → r1.2 = r.2 → fr_ mz_ g g1 → (∀ y, y < (T.1 + 1) ^ 6 → g1 69 y = nI (wt6 T C K (T.1 + 1) y)) → mm_W 70 M_Mo_seeks 0 0 (sk_Q dy g r T C K) 0 0 (80, [some (.ref 52), some (.int (nI ((T.1 + 1) ^ 6))), some (.int (nI (fm_ (wt6 T C K (T.1 + 1)) k))), some (.int (nI (k + 1)))], [], (hp_SH ++ dy, g1, r1)) := by
  have h4 := hL.2.1
  have h5 : (T.1 + 1) ^ 6 ≤ 5 ^ 6 := Nat.pow_le_pow_left (by omega) 6
  have hle : ∀ y, wt6 T C K (T.1 + 1) y ≤ 4800 := fun y => wt6_le h4 (fun l hl => (hL.2.2 l hl).2.2.2.1) hK.2.1
  intro m
  induction m with
  | zero =>
    intro k g1 r1 hk hr hF hs
    have hfl := fm_le (wt6 T C K (T.1 + 1)) k
    have hbc : fm_ (wt6 T C K (T.1 + 1)) k = bc_ T C K := by unfold bc_; rw [show (T.1 + 1) ^ 6 - 1 = k by omega]
    refine mm_I ok_Mo_seeks 49 2 82 [some (.ref 52), some (.int (nI ((T.1 + 1) ^ 6))), some (.int (nI (fm_ (wt6 T C K (T.1 + 1)) k))), some (.int (nI (k + 1)))] [.int (nI ((T.1 + 1) ^ 6)), .int (nI (k + 1))] (hp_SH ++ dy, g1, r1) [] rfl trivial rfl rfl (fun _ => ?_) (fun q => False.elim (q (nI_le (by omega) (by omega))))
    refine mm_B ok_Mo_seeks 67 8 (124, [some (.ref 52), some (.int (nI ((T.1 + 1) ^ 6))), some (.int (nI (fm_ (wt6 T C K (T.1 + 1)) k))), some (.int 5)], [], (hp_SH ++ dy, mm_up g1 52 39 (g1 69 ((nI (fm_ (wt6 T C K (T.1 + 1)) k)).toNatClampNeg)), r1)) [vp_in (nI (fm_ (wt6 T C K (T.1 + 1)) k)) 15625] rfl (show vp_in (nI (fm_ (wt6 T C K (T.1 + 1)) k)) 15625 from (nI_vi (by omega) (by decide))) ?_
    rw [nI_clamp (show fm_ (wt6 T C K (T.1 + 1)) k < 2 ^ 31 by omega), hs _ (by omega), hbc]
    have h8 := s5_go dy g P r hP hR hL hK (bc_ T C K) (by omega) (nI ((T.1 + 1) ^ 6)) 6 (mm_up g1 52 39 (nI (wt6 T C K (T.1 + 1) (bc_ T C K)))) r1 (Nat.le_refl _) hr (hF.up _ (by unfold mz_; simp)) rfl (fun b hb1 hb2 => by omega) rfl
    rw [Nat.sub_self, Nat.pow_zero, Nat.div_one, show nI 6 - 1 = (5 : Int32) by decide] at h8
    exact h8
  | succ m ih =>
    intro k g1 r1 hk hr hF hs
    have hfl := fm_le (wt6 T C K (T.1 + 1)) k
    have hsk := hs (k + 1) (by omega)
    have hsf := hs (fm_ (wt6 T C K (T.1 + 1)) k) (by omega)
    have h1 := hle (k + 1)
    have h2 := hle (fm_ (wt6 T C K (T.1 + 1)) k)
    refine mm_I ok_Mo_seeks 49 2 82 [some (.ref 52), some (.int (nI ((T.1 + 1) ^ 6))), some (.int (nI (fm_ (wt6 T C K (T.1 + 1)) k))), some (.int (nI (k + 1)))] [.int (nI ((T.1 + 1) ^ 6)), .int (nI (k + 1))] (hp_SH ++ dy, g1, r1) [] rfl trivial rfl rfl (fun q => False.elim (nI_ge (show k + 1 < (T.1 + 1) ^ 6 by omega) (by omega) q)) (fun _ => ?_)
    refine mm_B ok_Mo_seeks 52 8 (97, [some (.ref 52), some (.int (nI ((T.1 + 1) ^ 6))), some (.int (nI (fm_ (wt6 T C K (T.1 + 1)) k))), some (.int (nI (k + 1)))], [.int (g1 69 ((nI (fm_ (wt6 T C K (T.1 + 1)) k)).toNatClampNeg)), .int (g1 69 ((nI (k + 1)).toNatClampNeg))], (hp_SH ++ dy, g1, r1)) [vp_in (nI (k + 1)) 15625, vp_in (nI (fm_ (wt6 T C K (T.1 + 1)) k)) 15625] rfl (show (vp_in (nI (k + 1)) 15625) ∧ (vp_in (nI (fm_ (wt6 T C K (T.1 + 1)) k)) 15625) from ⟨(nI_vi (by omega) (by decide)), (nI_vi (by omega) (by decide))⟩) ?_
    rw [nI_clamp (show k + 1 < 2 ^ 31 by omega), nI_clamp (show fm_ (wt6 T C K (T.1 + 1)) k < 2 ^ 31 by omega), hsk, hsf]
    have h8 := ih (k + 1) g1 r1 (by omega) hr hF hs
    by_cases hlt : wt6 T C K (T.1 + 1) (fm_ (wt6 T C K (T.1 + 1)) k) < wt6 T C K (T.1 + 1) (k + 1)
    · refine mm_I ok_Mo_seeks 60 0 97 [some (.ref 52), some (.int (nI ((T.1 + 1) ^ 6))), some (.int (nI (fm_ (wt6 T C K (T.1 + 1)) k))), some (.int (nI (k + 1)))] [.int (nI (wt6 T C K (T.1 + 1) (fm_ (wt6 T C K (T.1 + 1)) k))), .int (nI (wt6 T C K (T.1 + 1) (k + 1)))] (hp_SH ++ dy, g1, r1) [] rfl trivial rfl rfl (fun q => False.elim (nI_ge hlt (by omega) q)) (fun _ => ?_)
      refine mm_B ok_Mo_seeks 61 2 (105, [some (.ref 52), some (.int (nI ((T.1 + 1) ^ 6))), some (.int (nI (fm_ (wt6 T C K (T.1 + 1)) k))), some (.int (nI (k + 1)))], [.int (nI (k + 1))], (hp_SH ++ dy, g1, r1)) [] rfl trivial ?_
      refine mm_B ok_Mo_seeks 64 3 (80, [some (.ref 52), some (.int (nI ((T.1 + 1) ^ 6))), some (.int (nI (k + 1))), some (.int ((nI (k + 1)) + 1))], [], (hp_SH ++ dy, g1, r1)) [] rfl trivial ?_
      rw [nI_1]
      have e9 : fm_ (wt6 T C K (T.1 + 1)) (k + 1) = k + 1 := by simp only [fm_]; rw [if_pos hlt]
      rw [e9] at h8
      exact h8
    · refine mm_I ok_Mo_seeks 60 0 97 [some (.ref 52), some (.int (nI ((T.1 + 1) ^ 6))), some (.int (nI (fm_ (wt6 T C K (T.1 + 1)) k))), some (.int (nI (k + 1)))] [.int (nI (wt6 T C K (T.1 + 1) (fm_ (wt6 T C K (T.1 + 1)) k))), .int (nI (wt6 T C K (T.1 + 1) (k + 1)))] (hp_SH ++ dy, g1, r1) [] rfl trivial rfl rfl (fun _ => ?_) (fun q => False.elim (q (nI_le (by omega) (by omega))))
      refine mm_B ok_Mo_seeks 63 4 (80, [some (.ref 52), some (.int (nI ((T.1 + 1) ^ 6))), some (.int (nI (fm_ (wt6 T C K (T.1 + 1)) k))), some (.int ((nI (k + 1)) + 1))], [], (hp_SH ++ dy, g1, r1)) [] rfl trivial ?_
      rw [nI_1]
      have e9 : fm_ (wt6 T C K (T.1 + 1)) (k + 1) = fm_ (wt6 T C K (T.1 + 1)) k := by simp only [fm_]; rw [if_neg hlt]
      rw [e9] at h8
      exact h8
theorem s3_go (dy : List mm_Sh) (g P : Nat → Nat → Int32) (r : (Nat → Nat → Int64) × Nat × (Nat → Int32)) (hP : nr_ g = P) {C : Nat → List Int32} (hR : rt_M P C) {T : sp_T} (hL : rl_LM T P) {K : sp_K} (hK : rl_CM K P) : ∀ (m k : Nat) (g1 : Nat → Nat → Int32) (r1 : (Nat → Nat → Int64) × Nat × (Nat → Int32)), k + m = K.1 → r1.2 = r.2 → fr_ mz_ g g1 → nh_ C K.2.2.2 g1 → nw_ C K.2.2.2 g1 → (∀ y, y < (T.1 + 1) ^ 6 → g1 69 y = nI (sp_sum (pt6 T C K (T.1 + 1) y) k)) → mm_W 70 M_Mo_seeks 0 0 (sk_Q dy g r T C K) 0 0 (51, [some (.ref 52), some (.int (nI ((T.1 + 1) ^ 6))), some (.int (nI k)), none], [], (hp_SH ++ dy, g1, r1)) := by
  have h4 := hL.2.1
  have h6 := hK.2.1
  have h5 : 0 < (T.1 + 1) ^ 6 := Nat.pow_pos (Nat.succ_pos _)
  intro m
  induction m with
  | zero =>
    intro k g1 r1 hk hr hF hnh hnw hs
    have hk : k = K.1 := hk
    have e14 : g1 52 14 = nI K.1 := by rw [nr_at (hF.nr mz_nr hP) 52 14 rfl]; exact hK.1
    refine mm_B ok_Mo_seeks 32 3 (56, [some (.ref 52), some (.int (nI ((T.1 + 1) ^ 6))), some (.int (nI k)), none], [.int (g1 52 14), .int (nI k)], (hp_SH ++ dy, g1, r1)) [] rfl trivial ?_
    rw [e14]
    refine mm_I ok_Mo_seeks 35 0 56 [some (.ref 52), some (.int (nI ((T.1 + 1) ^ 6))), some (.int (nI k)), none] [.int (nI K.1), .int (nI k)] (hp_SH ++ dy, g1, r1) [] rfl trivial rfl rfl (fun _ => ?_) (fun q => False.elim (q (nI_le (by omega) (by omega))))
    refine mm_B ok_Mo_seeks 45 4 (80, [some (.ref 52), some (.int (nI ((T.1 + 1) ^ 6))), some (.int 0), some (.int 1)], [], (hp_SH ++ dy, g1, r1)) [] rfl trivial ?_
    exact s4_go dy g P r hP hR hL hK ((T.1 + 1) ^ 6 - 1) 0 g1 r1 (by omega) hr hF (fun y hy => by rw [hs y hy, hk]; rfl)
  | succ m ih =>
    intro k g1 r1 hk hr hF hnh hnw hs
    have e14 : g1 52 14 = nI K.1 := by rw [nr_at (hF.nr mz_nr hP) 52 14 rfl]; exact hK.1
    refine mm_B ok_Mo_seeks 32 3 (56, [some (.ref 52), some (.int (nI ((T.1 + 1) ^ 6))), some (.int (nI k)), none], [.int (g1 52 14), .int (nI k)], (hp_SH ++ dy, g1, r1)) [] rfl trivial ?_
    rw [e14]
    refine mm_I ok_Mo_seeks 35 0 56 [some (.ref 52), some (.int (nI ((T.1 + 1) ^ 6))), some (.int (nI k)), none] [.int (nI K.1), .int (nI k)] (hp_SH ++ dy, g1, r1) [] rfl trivial rfl rfl (fun q => False.elim (nI_ge (show k < K.1 by omega) (by omega) q)) (fun _ => ?_)
    refine mm_B ok_Mo_seeks 36 1 (60, [some (.ref 52), some (.int (nI ((T.1 + 1) ^ 6))), some (.int (nI k)), none], [.ref 52], (hp_SH ++ dy, g1, r1)) [] rfl trivial ?_
    refine mm_cV (as := []) (st := []) (q := 52) cw_Mo_begins lk_Mo_277 in_Mo_begins sl_Mo_begins rfl rfl (mm_at ok_Mo_seeks (i := 37) rfl).1 (ct_Mo_begins dy g1 r1) (by decide) ⟨by omega, by omega⟩ (Nat.le_of_ble_eq_true rfl) (mm_vs_b (b := 77) rfl (hp_len dy)) (fun v h' hqq => ?_)
    obtain ⟨rfl, g2, hqe, hF2, hN2, hrw2⟩ := hqq; rw [hqe]
    have hF02 := hF.tr (hF2.mono mz_mo)
    refine mm_B ok_Mo_seeks 38 4 (67, [some (.ref 52), some (.int (nI ((T.1 + 1) ^ 6))), some (.int (nI k)), none], [.int 0, .int (nI k), .int 0, .ref 52], (hp_SH ++ dy, g2, r1)) [] rfl trivial ?_
    refine mm_cV (as := [.int 0, .int (nI k), .int 0]) (st := []) (q := 52) cw_Mo_adds lk_Mo_307 in_Mo_adds sl_Mo_adds rfl rfl (mm_at ok_Mo_seeks (i := 42) rfl).1 (ct_Mo_adds dy P hR hL hK (c := k) (by omega) 6 0 0 g2 r1 (by omega) (hF02.nr mz_nr hP) (by rw [Nat.pow_zero]; decide) (nh_fr hnh (fun i => (hN2 i).1)) (nw_fr hnw (fun i => (hN2 i).2)) hrw2) (by decide) ⟨by omega, by omega⟩ (Nat.le_of_ble_eq_true rfl) (mm_vs_b (b := 77) rfl (hp_len dy)) (fun v h' hqq => ?_)
    obtain ⟨rfl, g3, r3, hqe, hr3, hF3, hnh3, hnw3, hs3⟩ := hqq; rw [hqe]
    refine mm_B ok_Mo_seeks 43 2 (51, [some (.ref 52), some (.int (nI ((T.1 + 1) ^ 6))), some (.int ((nI k) + 1)), none], [], (hp_SH ++ dy, g3, r3)) [] rfl trivial ?_
    rw [nI_1]
    exact ih (k + 1) g3 r3 (by omega) (hr3.trans hr) (hF02.tr (hF3.mono mz_mv)) hnh3 hnw3 (fun y hy => by rw [hs3 y, if_pos (by omega), hF2 69 y (by unfold mo_ mu_ mj_; rfl), hs y hy, nI_add]; rfl)
theorem s2_go (dy : List mm_Sh) (g P : Nat → Nat → Int32) (r : (Nat → Nat → Int64) × Nat × (Nat → Int32)) (hP : nr_ g = P) {C : Nat → List Int32} (hR : rt_M P C) {T : sp_T} (hL : rl_LM T P) {K : sp_K} (hK : rl_CM K P) : ∀ (m k : Nat) (g1 : Nat → Nat → Int32), k + m = (T.1 + 1) ^ 6 → fr_ mz_ g g1 → nh_ C K.2.2.2 g1 → nw_ C K.2.2.2 g1 → (∀ y, y < k → g1 69 y = 0) → mm_W 70 M_Mo_seeks 0 0 (sk_Q dy g r T C K) 0 0 (31, [some (.ref 52), some (.int (nI ((T.1 + 1) ^ 6))), some (.int (nI k)), none], [], (hp_SH ++ dy, g1, r)) := by
  have h4 := hL.2.1
  have h5 : (T.1 + 1) ^ 6 ≤ 5 ^ 6 := Nat.pow_le_pow_left (by omega) 6
  intro m
  induction m with
  | zero =>
    intro k g1 hk hF hnh hnw hs
    refine mm_I ok_Mo_seeks 20 2 33 [some (.ref 52), some (.int (nI ((T.1 + 1) ^ 6))), some (.int (nI k)), none] [.int (nI ((T.1 + 1) ^ 6)), .int (nI k)] (hp_SH ++ dy, g1, r) [] rfl trivial rfl rfl (fun _ => ?_) (fun q => False.elim (q (nI_le (by omega) (by omega))))
    refine mm_B ok_Mo_seeks 30 2 (51, [some (.ref 52), some (.int (nI ((T.1 + 1) ^ 6))), some (.int 0), none], [], (hp_SH ++ dy, g1, r)) [] rfl trivial ?_
    exact s3_go dy g P r hP hR hL hK K.1 0 g1 r (Nat.zero_add _) rfl hF hnh hnw (fun y hy => hs y (by omega))
  | succ m ih =>
    intro k g1 hk hF hnh hnw hs
    refine mm_I ok_Mo_seeks 20 2 33 [some (.ref 52), some (.int (nI ((T.1 + 1) ^ 6))), some (.int (nI k)), none] [.int (nI ((T.1 + 1) ^ 6)), .int (nI k)] (hp_SH ++ dy, g1, r) [] rfl trivial rfl rfl (fun q => False.elim (nI_ge (show k < (T.1 + 1) ^ 6 by omega) (by omega) q)) (fun _ => ?_)
    refine mm_B ok_Mo_seeks 23 7 (31, [some (.ref 52), some (.int (nI ((T.1 + 1) ^ 6))), some (.int ((nI k) + 1)), none], [], (hp_SH ++ dy, mm_up g1 69 ((nI k).toNatClampNeg) 0, r)) [vp_in (nI k) 15625] rfl (show vp_in (nI k) 15625 from (nI_vi (by omega) (by decide))) ?_
    rw [nI_1, nI_clamp (show k < 2 ^ 31 by omega)]
    exact ih (k + 1) _ (by omega) (hF.up _ (by unfold mz_; simp)) (nh_fr hnh (fun _ => rfl)) (nw_fr hnw (fun _ => rfl)) (fun y hy => by
      by_cases e : y = k
      · rw [e, mm_up_at]
      · rw [mm_up_no e]; exact hs y (by omega))
theorem s1_go (dy : List mm_Sh) (g P : Nat → Nat → Int32) (r : (Nat → Nat → Int64) × Nat × (Nat → Int32)) (hP : nr_ g = P) {C : Nat → List Int32} (hR : rt_M P C) {T : sp_T} (hL : rl_LM T P) {K : sp_K} (hK : rl_CM K P) (g1 : Nat → Nat → Int32) (hF : fr_ mz_ g g1) (hnh : nh_ C K.2.2.2 g1) (hnw : nw_ C K.2.2.2 g1) : ∀ (m k : Nat), k + m = 6 → mm_W 70 M_Mo_seeks 0 0 (sk_Q dy g r T C K) 0 0 (8, [some (.ref 52), some (.int (nI ((T.1 + 1) ^ k))), some (.int (nI k)), none], [], (hp_SH ++ dy, g1, r)) := by
  have h4 := hL.2.1
  have e10 : g1 52 10 = nI T.1 := by rw [nr_at (hF.nr mz_nr hP) 52 10 rfl]; exact hL.1
  intro m
  induction m with
  | zero =>
    intro k hk
    have hk : k = 6 := hk
    refine mm_I ok_Mo_seeks 6 2 11 [some (.ref 52), some (.int (nI ((T.1 + 1) ^ k))), some (.int (nI k)), none] [.int 6, .int (nI k)] (hp_SH ++ dy, g1, r) [] rfl trivial rfl rfl (fun _ => ?_) (fun q => False.elim (q (nI_le (a := 6) (by omega) (by omega))))
    refine mm_B ok_Mo_seeks 18 2 (31, [some (.ref 52), some (.int (nI ((T.1 + 1) ^ k))), some (.int 0), none], [], (hp_SH ++ dy, g1, r)) [] rfl trivial ?_
    rw [hk]
    exact s2_go dy g P r hP hR hL hK ((T.1 + 1) ^ 6) 0 g1 (Nat.zero_add _) hF hnh hnw (fun y hy => absurd hy (Nat.not_lt_zero y))
  | succ m ih =>
    intro k hk
    refine mm_I ok_Mo_seeks 6 2 11 [some (.ref 52), some (.int (nI ((T.1 + 1) ^ k))), some (.int (nI k)), none] [.int 6, .int (nI k)] (hp_SH ++ dy, g1, r) [] rfl trivial rfl rfl (fun q => False.elim (absurd q (nI_ge (b := 6) (show k < 6 by omega) (by decide)))) (fun _ => ?_)
    refine mm_B ok_Mo_seeks 9 9 (8, [some (.ref 52), some (.int ((nI ((T.1 + 1) ^ k)) * ((g1 52 10) + 1))), some (.int ((nI k) + 1)), none], [], (hp_SH ++ dy, g1, r)) [] rfl trivial ?_
    rw [e10, nI_1, nI_1, nI_mul, ← Nat.pow_succ]
    exact ih (k + 1) (by omega)
theorem ct_Mo_seeks (dy : List mm_Sh) (g P : Nat → Nat → Int32) (r : (Nat → Nat → Int64) × Nat × (Nat → Int32)) (hP : nr_ g = P) {C : Nat → List Int32} (hR : rt_M P C) {T : sp_T} (hL : rl_LM T P) {K : sp_K} (hK : rl_CM K P) : mm_Ct 70 M_Mo_seeks [.ref 52] (hp_SH ++ dy, g, r) 0 0 (sk_Q dy g r T C K) := by
  refine mm_start pl_Mo (Nat.le_of_ble_eq_true rfl) ?_
  refine mm_B ok_Mo_seeks 0 1 (1, [some (.ref 52), none, none, none], [.ref 52], (hp_SH ++ dy, g, r)) [] rfl trivial ?_
  refine mm_cV (as := []) (st := []) (q := 52) cw_Mo_forgets lk_Mo_298 in_Mo_forgets sl_Mo_forgets rfl rfl (mm_at ok_Mo_seeks (i := 1) rfl).1 (ct_Mo_forgets dy g r) (by decide) ⟨by omega, by omega⟩ (Nat.le_of_ble_eq_true rfl) (mm_vs_b (b := 77) rfl (hp_len dy)) (fun v h' hqq => ?_)
  obtain ⟨rfl, g1, hqe, hF1, h63, h64⟩ := hqq; rw [hqe]
  refine mm_B ok_Mo_seeks 2 4 (8, [some (.ref 52), some (.int 1), some (.int 0), none], [], (hp_SH ++ dy, g1, r)) [] rfl trivial ?_
  exact s1_go dy g P r hP hR hL hK g1 (hF1.mono mz_mu) (fun i hi => Or.inl (h63 i hi)) (fun i hi => Or.inl (h64 i hi)) 6 0 rfl

