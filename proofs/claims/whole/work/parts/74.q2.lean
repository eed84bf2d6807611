/-! ===== the program's calls: points, best, drawn, count ===== -/
theorem m1_ne {l : Nat} (h : l < 2 ^ 31) : ¬ nI l = -1 := fun q => absurd (q ▸ nI_pos h : ¬ (-1 : Int32) < 0) (by decide)
theorem dr_le {pl : Nat → Option Nat} {s w : Int32} {b l : Nat} (h : dr_ pl s w b = some l) : pl b = some l := by
  unfold dr_ at h
  split at h
  · exact h
  · cases h
theorem ct_Sc_draw_go (dy : List mm_Sh) (g P : Nat → Nat → Int32) (r : (Nat → Nat → Int64) × Nat × (Nat → Int32)) (hP : nr_ g = P) {pl : Nat → Option Nat} (hpl : ∀ b, b < 6 → P 9 b = pl_c (pl b)) (s w : Int32) : ∀ (m k : Nat) (g1 : Nat → Nat → Int32), k + m = 6 → fr_ d43 g g1 → (∀ j, j < k → g1 43 j = pl_c (dr_ pl s w j)) → mm_W 1 M_Sc_draw 0 0 (fun v h' => v = none ∧ ∃ g', h' = (hp_SH ++ dy, g', r) ∧ fr_ d43 g g' ∧ ∀ b, b < 6 → g' 43 b = pl_c (dr_ pl s w b)) 0 0 (5, [some (.ref 0), some (.int s), some (.int w), some (.int (zz_ s k)), some (.int (nI k))], [], (hp_SH ++ dy, g1, r)) := by
  intro m
  induction m with
  | zero =>
    intro k g1 hk hF hd
    refine mm_I ok_Sc_draw 4 2 9 [some (.ref 0), some (.int s), some (.int w), some (.int (zz_ s k)), some (.int (nI k))] [.int 6, .int (nI k)] (hp_SH ++ dy, g1, r) [] rfl trivial rfl rfl (fun _ => ?_) (fun q => False.elim (q (nI_le (a := 6) (b := k) (by omega) (by omega))))
    exact mm_r0 rfl (mm_at ok_Sc_draw (i := 34) rfl).1 ⟨Nat.le_refl _, Nat.le_refl _⟩ (⟨rfl, g1, rfl, hF, fun b hb => hd b (by omega)⟩)
  | succ m ih =>
    intro k g1 hk hF hd
    have e9 : g1 9 k = pl_c (pl k) := by rw [nr_at (hF.nr d43_nr hP) 9 k rfl]; exact hpl k (by omega)
    have hs : ∀ z, pl_c (dr_ pl s w k) = z → ∀ j, j < k + 1 → mm_up g1 43 k z 43 j = pl_c (dr_ pl s w j) := fun z hz j hj => by
      by_cases e : j = k
      · rw [e, mm_up_at, hz]
      · rw [mm_up_no e]; exact hd j (by omega)
    refine mm_I ok_Sc_draw 4 2 9 [some (.ref 0), some (.int s), some (.int w), some (.int (zz_ s k)), some (.int (nI k))] [.int 6, .int (nI k)] (hp_SH ++ dy, g1, r) [] rfl trivial rfl rfl (fun q => False.elim (nI_ge (b := 6) (show k < 6 by omega) (by decide) q)) (fun _ => ?_)
    refine mm_I ok_Sc_draw 7 15 36 [some (.ref 0), some (.int s), some (.int w), some (.int (((zz_ s k) * 1103515245) + 12345)), some (.int (nI k))] [.int w, .int ((((((zz_ s k) * 1103515245) + 12345).toUInt32 >>> ((11 : Int32).toUInt32 &&& Int32.toUInt32 31)).toInt32) - (((((zz_ s k) * 1103515245) + 12345).toUInt32 >>> ((11 : Int32).toUInt32 &&& Int32.toUInt32 31)).toInt32) / 10 * 10), .int (nI k), .ref 43] (hp_SH ++ dy, g1, r) [¬ (10 : Int32) = 0] rfl (show ¬ (10 : Int32) = 0 from (by first | exact mm_vi rfl | assumption | decide)) rfl rfl (fun hw => ?_) (fun hw => ?_)
    · refine mm_B ok_Sc_draw 25 9 (5, [some (.ref 0), some (.int s), some (.int w), some (.int (((zz_ s k) * 1103515245) + 12345)), some (.int ((nI k) + 1))], [], (hp_SH ++ dy, mm_up g1 43 ((nI k).toNatClampNeg) (g1 9 ((nI k).toNatClampNeg)), r)) [vp_in (nI k) 6, vp_in (nI k) 6] rfl (show (vp_in (nI k) 6) ∧ (vp_in (nI k) 6) from ⟨(nI_vi (show k < 6 by omega) (by decide)), (nI_vi (show k < 6 by omega) (by decide))⟩) ?_
      rw [nI_clamp (show k < 2 ^ 31 by omega), e9, nI_1]
      exact ih (k + 1) _ (by omega) (hF.up _ (by simp [d43])) (hs _ (by unfold dr_; exact congrArg pl_c (if_pos hw)))
    · refine mm_B ok_Sc_draw 23 2 (56, [some (.ref 0), some (.int s), some (.int w), some (.int (((zz_ s k) * 1103515245) + 12345)), some (.int (nI k))], [.int (-1), .int (nI k), .ref 43], (hp_SH ++ dy, g1, r)) [] rfl trivial ?_
      refine mm_B ok_Sc_draw 31 3 (5, [some (.ref 0), some (.int s), some (.int w), some (.int (((zz_ s k) * 1103515245) + 12345)), some (.int ((nI k) + 1))], [], (hp_SH ++ dy, mm_up g1 43 ((nI k).toNatClampNeg) (-1), r)) [vp_in (nI k) 6] rfl (show vp_in (nI k) 6 from (nI_vi (show k < 6 by omega) (by decide))) ?_
      rw [nI_clamp (show k < 2 ^ 31 by omega), nI_1]
      exact ih (k + 1) _ (by omega) (hF.up _ (by simp [d43])) (hs _ (by unfold dr_; exact congrArg pl_c (if_neg hw)))
theorem ct_Sc_draw (dy : List mm_Sh) (g P : Nat → Nat → Int32) (r : (Nat → Nat → Int64) × Nat × (Nat → Int32)) (hP : nr_ g = P) {pl : Nat → Option Nat} (hpl : ∀ b, b < 6 → P 9 b = pl_c (pl b)) (s w : Int32) : mm_Ct 1 M_Sc_draw [.ref 0, .int s, .int w] (hp_SH ++ dy, g, r) 0 0 (fun v h' => v = none ∧ ∃ g', h' = (hp_SH ++ dy, g', r) ∧ fr_ d43 g g' ∧ ∀ b, b < 6 → g' 43 b = pl_c (dr_ pl s w b)) := by
  refine mm_start pl_Sc (Nat.le_of_ble_eq_true rfl) ?_
  refine mm_B ok_Sc_draw 0 4 (5, [some (.ref 0), some (.int s), some (.int w), some (.int s), some (.int 0)], [], (hp_SH ++ dy, g, r)) [] rfl trivial ?_
  exact ct_Sc_draw_go dy g P r hP hpl s w 6 0 g rfl fr_.rf (fun j hj => absurd hj (Nat.not_lt_zero j))
/-- lessons on the plan -/
def sp_cnt (pl : Nat → Option Nat) (n : Nat) : Nat := sp_sum (fun b => match pl b with | none => 0 | some _ => 1) n
theorem sp_cnt_le (pl : Nat → Option Nat) : ∀ n, sp_cnt pl n ≤ n
  | 0 => Nat.le_refl 0
  | n + 1 => by
    have h := sp_cnt_le pl n
    unfold sp_cnt at h ⊢
    simp only [sp_sum]
    cases pl n <;> simp <;> omega
theorem ct_Sc_bwl_go (dy : List mm_Sh) (g P : Nat → Nat → Int32) (r : (Nat → Nat → Int64) × Nat × (Nat → Int32)) (hP : nr_ g = P) {pl : Nat → Option Nat} (hpl : ∀ b, b < 6 → g 9 b = pl_c (pl b)) (hq : ∀ b l, b < 6 → pl b = some l → l < 4) : ∀ (m k : Nat), k + m = 6 → mm_W 1 M_Sc_bendsWithLesson 0 0 (fun v h' => v = some (.int (nI (sp_cnt pl 6))) ∧ h' = (hp_SH ++ dy, g, r)) 0 0 (4, [some (.ref 9), some (.int (nI (sp_cnt pl k))), some (.int (nI k))], [], (hp_SH ++ dy, g, r)) := by
  intro m
  induction m with
  | zero =>
    intro k hk
    refine mm_I ok_Sc_bendsWithLesson 4 2 7 [some (.ref 9), some (.int (nI (sp_cnt pl k))), some (.int (nI k))] [.int 6, .int (nI k)] (hp_SH ++ dy, g, r) [] rfl trivial rfl rfl (fun _ => ?_) (fun q => False.elim (q (nI_le (a := 6) (b := k) (by omega) (by omega))))
    refine mm_B ok_Sc_bendsWithLesson 20 1 (32, [some (.ref 9), some (.int (nI (sp_cnt pl k))), some (.int (nI k))], [.int (nI (sp_cnt pl k))], (hp_SH ++ dy, g, r)) [] rfl trivial ?_
    exact mm_ri rfl (mm_at ok_Sc_bendsWithLesson (i := 21) rfl).1 ⟨Nat.le_refl _, Nat.le_refl _⟩ (⟨by rw [show k = 6 by omega], rfl⟩)
  | succ m ih =>
    intro k hk
    refine mm_I ok_Sc_bendsWithLesson 4 2 7 [some (.ref 9), some (.int (nI (sp_cnt pl k))), some (.int (nI k))] [.int 6, .int (nI k)] (hp_SH ++ dy, g, r) [] rfl trivial rfl rfl (fun q => False.elim (nI_ge (b := 6) (show k < 6 by omega) (by decide) q)) (fun _ => ?_)
    refine mm_B ok_Sc_bendsWithLesson 7 4 (14, [some (.ref 9), some (.int (nI (sp_cnt pl k))), some (.int (nI k))], [.int (-1), .int (g 9 ((nI k).toNatClampNeg))], (hp_SH ++ dy, g, r)) [vp_in (nI k) 6] rfl (show vp_in (nI k) 6 from (nI_vi (show k < 6 by omega) (by decide))) ?_
    rw [nI_clamp (show k < 2 ^ 31 by omega), hpl k (by omega)]
    cases hz : pl k with
    | none =>
      have hn : sp_cnt pl (k + 1) = sp_cnt pl k := by unfold sp_cnt; simp only [sp_sum]; rw [hz]; rfl
      refine mm_I ok_Sc_bendsWithLesson 11 0 14 [some (.ref 9), some (.int (nI (sp_cnt pl k))), some (.int (nI k))] [.int (-1), .int (-1)] (hp_SH ++ dy, g, r) [] rfl trivial rfl rfl (fun q => False.elim (q rfl)) (fun _ => ?_)
      refine mm_B ok_Sc_bendsWithLesson 12 2 (24, [some (.ref 9), some (.int (nI (sp_cnt pl k))), some (.int (nI k))], [.int (nI (sp_cnt pl k))], (hp_SH ++ dy, g, r)) [] rfl trivial ?_
      refine mm_B ok_Sc_bendsWithLesson 17 3 (4, [some (.ref 9), some (.int (nI (sp_cnt pl k))), some (.int ((nI k) + 1))], [], (hp_SH ++ dy, g, r)) [] rfl trivial ?_
      rw [nI_1]
      have h8 := ih (k + 1) (by omega)
      rw [hn] at h8
      exact h8
    | some l =>
      have hn : sp_cnt pl (k + 1) = sp_cnt pl k + 1 := by unfold sp_cnt; simp only [sp_sum]; rw [hz]
      have hl := hq k l (by omega) hz
      refine mm_I ok_Sc_bendsWithLesson 11 0 14 [some (.ref 9), some (.int (nI (sp_cnt pl k))), some (.int (nI k))] [.int (-1), .int (nI l)] (hp_SH ++ dy, g, r) [] rfl trivial rfl rfl (fun _ => ?_) (fun q => False.elim (m1_ne (show l < 2 ^ 31 by omega) q))
      refine mm_B ok_Sc_bendsWithLesson 14 6 (4, [some (.ref 9), some (.int ((nI (sp_cnt pl k)) + 1)), some (.int ((nI k) + 1))], [], (hp_SH ++ dy, g, r)) [] rfl trivial ?_
      rw [nI_1 k, nI_1 (sp_cnt pl k)]
      have h8 := ih (k + 1) (by omega)
      rw [hn] at h8
      exact h8
theorem ct_Sc_bendsWithLesson (dy : List mm_Sh) (g P : Nat → Nat → Int32) (r : (Nat → Nat → Int64) × Nat × (Nat → Int32)) (hP : nr_ g = P) {pl : Nat → Option Nat} (hpl : ∀ b, b < 6 → g 9 b = pl_c (pl b)) (hq : ∀ b l, b < 6 → pl b = some l → l < 4) : mm_Ct 1 M_Sc_bendsWithLesson [.ref 9] (hp_SH ++ dy, g, r) 0 0 (fun v h' => v = some (.int (nI (sp_cnt pl 6))) ∧ h' = (hp_SH ++ dy, g, r)) := by
  refine mm_start pl_Sc (Nat.le_of_ble_eq_true rfl) ?_
  refine mm_B ok_Sc_bendsWithLesson 0 4 (4, [some (.ref 9), some (.int 0), some (.int 0)], [], (hp_SH ++ dy, g, r)) [] rfl trivial ?_
  exact ct_Sc_bwl_go dy g P r hP hpl hq 6 0 rfl
def an_count (A : sA) (w : Int32) : Int32 := match ix_ 6 w with
  | some 0 => nI A.1.1
  | some 1 => nI A.2.1.1
  | some 2 => nI (sp_cnt A.2.2.1.1 6)
  | some 3 => nI A.2.2.2.1.1
  | some 4 => nI A.2.2.2.2.1.1
  | some 5 => nI A.2.2.2.1.2.2
  | _ => -2
theorem cc_drawn (dy : List mm_Sh) (g : Nat → Nat → Int32) (r : (Nat → Nat → Int64) × Nat × (Nat → Int32)) {A : sA} (hI : CI dy (nr_ g) A) (hSI : SI A) (s w : Int32) : mm_Ct 12 M_Sc_drawn [.ref 0, .int s, .int w] (hp_SH ++ dy, g, r) 0 0 (RC dy g r A (.int (an_drawn A s w))) := by
  have hI' := hI
  obtain ⟨hL, hK, hPl, hX, hB, hS, hIm, hFd, hW⟩ := hI'
  have hR := cX_R hX
  have h4 := hL.2.1
  have h6 := hK.2.1
  have e20 : g 2 0 = nI A.1.1 := by rw [← nr_eq g (k := 2) (j := 0) rfl]; exact hL.1
  have e21 : g 2 1 = nI A.2.1.1 := by rw [← nr_eq g (k := 2) (j := 1) rfl]; exact hK.1
  have hpa : (hp_SH ++ dy)[9]? = some (.inl (0, 6)) := (hp_at dy (by decide)).trans rfl
  have hpl : ∀ b, b < 6 → g 9 b = pl_c (A.2.2.1.1 b) := fun b hb => by rw [← nr_eq g (k := 9) (j := b) rfl]; exact (hPl b hb).1
  have hot : ∀ b, b < 6 → g 10 b = pl_c (A.2.2.1.2 b) := fun b hb => by rw [← nr_eq g (k := 10) (j := b) rfl]; exact (hPl b hb).2
  have hpo : ∀ b l, b < 6 → A.2.2.1.1 b = some l → l < A.1.1 := fun b l hb h => hSI.1 b l hb (Or.inl h)
  refine mm_start pl_Sc (Nat.le_of_ble_eq_true rfl) ?_
  cases hx1 : ix_ 11 w with
  | none =>
    rw [show an_drawn A s w = (-2) by unfold an_drawn; rw [hx1]]
    refine mm_B ok_Sc_drawn 0 1 (1, [some (.ref 0), some (.int s), some (.int w)], [.int w], (hp_SH ++ dy, g, r)) [] rfl trivial ?_
    refine mm_cS (as := [.int w]) (st := []) cw_Sc_isWater lk_Sc_245 sx_Sc_isWater (mm_at ok_Sc_drawn (i := 1) rfl).1 (ct_Sc_isWater (hp_SH ++ dy, g, r) w) (by decide) ⟨by omega, by omega⟩ (Nat.le_of_ble_eq_true rfl) (mm_vs_b (b := 77) rfl (hp_len dy)) (fun v h' hqq => ?_)
    obtain ⟨rfl, hqe⟩ := hqq; rw [hqe]
    rw [wx_ w, hx1]
    refine mm_I ok_Sc_drawn 2 0 4 [some (.ref 0), some (.int s), some (.int w)] [.int (iz_ none)] (hp_SH ++ dy, g, r) [] rfl trivial rfl rfl (fun q => False.elim (q rfl)) (fun _ => ?_)
    refine mm_B ok_Sc_drawn 3 1 (9, [some (.ref 0), some (.int s), some (.int w)], [.int (-2)], (hp_SH ++ dy, g, r)) [] rfl trivial ?_
    exact mm_ri rfl (mm_at ok_Sc_drawn (i := 4) rfl).1 ⟨Nat.le_refl _, Nat.le_refl _⟩ (RC_q rfl hI fr_.rf)
  | some j =>
    obtain ⟨hl1, rfl⟩ := ix_some (by omega) hx1
    rw [show an_drawn A s (nI j) = nI (sp_all A.1 (aC A) A.2.1 (dr_ A.2.2.1.1 s (nI j))) from by unfold an_drawn; rw [hx1]]
    refine mm_B ok_Sc_drawn 0 1 (1, [some (.ref 0), some (.int s), some (.int (nI j))], [.int (nI j)], (hp_SH ++ dy, g, r)) [] rfl trivial ?_
    refine mm_cS (as := [.int (nI j)]) (st := []) cw_Sc_isWater lk_Sc_245 sx_Sc_isWater (mm_at ok_Sc_drawn (i := 1) rfl).1 (ct_Sc_isWater (hp_SH ++ dy, g, r) (nI j)) (by decide) ⟨by omega, by omega⟩ (Nat.le_of_ble_eq_true rfl) (mm_vs_b (b := 77) rfl (hp_len dy)) (fun v h' hqq => ?_)
    obtain ⟨rfl, hqe⟩ := hqq; rw [hqe]
    rw [wx_ (nI j), ix_at hl1 (by omega)]
    refine mm_I ok_Sc_drawn 2 0 4 [some (.ref 0), some (.int s), some (.int (nI j))] [.int (iz_ (some j))] (hp_SH ++ dy, g, r) [] rfl trivial rfl rfl (fun _ => ?_) (fun q => False.elim (one0 q))
    refine mm_B ok_Sc_drawn 5 3 (13, [some (.ref 0), some (.int s), some (.int (nI j))], [.int (nI j), .int s, .ref 0], (hp_SH ++ dy, g, r)) [] rfl trivial ?_
    refine mm_cV (as := [.int s, .int (nI j)]) (st := []) (q := 0) cw_Sc_draw lk_Sc_248 in_Sc_draw sl_Sc_draw rfl rfl (mm_at ok_Sc_drawn (i := 8) rfl).1 (ct_Sc_draw dy g (nr_ g) r rfl (fun b hb => (hPl b hb).1) s (nI j)) (by decide) ⟨by omega, by omega⟩ (Nat.le_of_ble_eq_true rfl) (mm_vs_b (b := 77) rfl (hp_len dy)) (fun v h' hqq => ?_)
    obtain ⟨hqv, g1, hqe, hF1, hd⟩ := hqq; subst hqv; rw [hqe]
    refine mm_B ok_Sc_drawn 9 3 (21, [some (.ref 0), some (.int s), some (.int (nI j))], [.ref 43, .ref 0], (hp_SH ++ dy, g1, r)) [] rfl trivial ?_
    refine mm_cV (as := [.ref 43]) (st := []) (q := 0) cw_Sc_pointsOfAll lk_Sc_188 in_Sc_pointsOfAll sl_Sc_pointsOfAll rfl rfl (mm_at ok_Sc_drawn (i := 12) rfl).1 (ct_Sc_pointsOfAll dy g1 (nr_ g) r (hF1.nr d43_nr rfl) hR hL hK (pa := 43) ((hp_at dy (by decide)).trans rfl) (fun _ => rfl) hd (fun b l hb h => hpo b l hb (dr_le h))) (by decide) ⟨by omega, by omega⟩ (Nat.le_of_ble_eq_true rfl) (mm_vs_b (b := 77) rfl (hp_len dy)) (fun v h' hqq => ?_)
    obtain ⟨rfl, g2, hqe, hF2⟩ := hqq; rw [hqe]
    exact mm_ri rfl (mm_at ok_Sc_drawn (i := 13) rfl).1 ⟨Nat.le_refl _, Nat.le_refl _⟩ (RC_q rfl hI ((hF1.tr (hF2.mono d43_f1)).mono cz_43))
theorem fv_nr' {k j : Nat} (h : nr_s k j = false) (h5 : k ≠ 25) (h6 : k ≠ 26) : fv_ k j = false := by
  unfold fv_ fk_
  rw [f1_nr k j h, beq_false_of_ne h5, beq_false_of_ne h6]
  have : ∀ n, (n = 27 ∨ n = 28 ∨ n = 29 ∨ n = 30) → (k == n) = false := fun n hn => beq_false_of_ne (fun e => by
    subst e
    rcases hn with rfl | rfl | rfl | rfl <;> cases h)
  rw [this 27 (by simp), this 28 (by simp), this 29 (by simp), this 30 (by simp)]
  rfl
theorem fv_hi {k j : Nat} (h : 52 ≤ k) : fv_ k j = false := by
  unfold fv_ fk_ f1_
  rw [beq_false_of_ne (show k ≠ 13 by omega), beq_false_of_ne (show k ≠ 14 by omega), beq_false_of_ne (show k ≠ 29 by omega), beq_false_of_ne (show k ≠ 30 by omega), beq_false_of_ne (show k ≠ 27 by omega), beq_false_of_ne (show k ≠ 28 by omega), beq_false_of_ne (show k ≠ 26 by omega), beq_false_of_ne (show k ≠ 25 by omega)]
  rfl
theorem CI_find {dy : List mm_Sh} {A : sA} {g g' : Nat → Nat → Int32} (hI : CI dy (nr_ g) A) (h1 : ∀ k j, fv_ k j = false → ¬ (k = 25 ∧ j = 2) → g' k j = g k j) (h2 : g' 25 2 = 1) (h3 : g' 25 1 = nI (bw_ A.1 (aC A) A.2.1)) (h4 : ∀ b, b < 6 → g' 26 b = pl_c (dec_ (A.1.1 + 1) (bc_ A.1 (aC A) A.2.1) b)) : CI dy (nr_ g') A := by
  refine CI_25 hI (fun k j e1 e2 => ?_) (Or.inr ⟨by rw [nr_eq g' rfl]; exact h2, by rw [nr_eq g' rfl]; exact h3, fun b hb => by rw [nr_eq g' rfl]; exact h4 b hb⟩)
  cases hs : nr_s k j with
  | true => unfold nr_; rw [hs]; rfl
  | false => exact nr_cong (h1 k j (by rw [fv_nr' hs e1 e2]) (fun q => e1 q.1))
theorem fd_hf {dy : List mm_Sh} {A : sA} {g : Nat → Nat → Int32} (hI : CI dy (nr_ g) A) : g 25 2 = 0 ∨ (g 25 2 = 1 ∧ g 25 1 = nI (bw_ A.1 (aC A) A.2.1) ∧ ∀ b, b < 6 → g 26 b = pl_c (dec_ (A.1.1 + 1) (bc_ A.1 (aC A) A.2.1) b)) := by
  obtain ⟨-, -, -, -, -, -, -, hFd, -⟩ := hI
  rcases hFd with h | ⟨h1, h2, h3⟩
  · rw [nr_eq g rfl] at h
    exact Or.inl h
  · rw [nr_eq g rfl] at h1 h2
    exact Or.inr ⟨h1, h2, fun b hb => by rw [← nr_eq g (k := 26) (j := b) rfl]; exact h3 b hb⟩
theorem fd_hi {g g' : Nat → Nat → Int32} (h1 : ∀ k j, fv_ k j = false → ¬ (k = 25 ∧ j = 2) → g' k j = g k j) : ∀ k j, 52 ≤ k → k ≤ 76 → g' k j = g k j := fun k j h _ => h1 k j (fv_hi h) (by omega)
theorem cc_best (dy : List mm_Sh) (g : Nat → Nat → Int32) (r : (Nat → Nat → Int64) × Nat × (Nat → Int32)) {A : sA} (hI : CI dy (nr_ g) A) (hSI : SI A) (w : Int32) : mm_Ct 20 M_Sc_best [.ref 0, .int w] (hp_SH ++ dy, g, r) 0 0 (RC dy g r A (.int (an_best A w))) := by
  have hI' := hI
  obtain ⟨hL, hK, hPl, hX, hB, hS, hIm, hFd, hW⟩ := hI'
  have hR := cX_R hX
  have h4 := hL.2.1
  have h6 := hK.2.1
  have e20 : g 2 0 = nI A.1.1 := by rw [← nr_eq g (k := 2) (j := 0) rfl]; exact hL.1
  have e21 : g 2 1 = nI A.2.1.1 := by rw [← nr_eq g (k := 2) (j := 1) rfl]; exact hK.1
  have hpa : (hp_SH ++ dy)[9]? = some (.inl (0, 6)) := (hp_at dy (by decide)).trans rfl
  have hpl : ∀ b, b < 6 → g 9 b = pl_c (A.2.2.1.1 b) := fun b hb => by rw [← nr_eq g (k := 9) (j := b) rfl]; exact (hPl b hb).1
  have hot : ∀ b, b < 6 → g 10 b = pl_c (A.2.2.1.2 b) := fun b hb => by rw [← nr_eq g (k := 10) (j := b) rfl]; exact (hPl b hb).2
  have hpo : ∀ b l, b < 6 → A.2.2.1.1 b = some l → l < A.1.1 := fun b l hb h => hSI.1 b l hb (Or.inl h)
  refine mm_start pl_Sc (Nat.le_of_ble_eq_true rfl) ?_
  cases hx1 : ix_ 7 w with
  | none =>
    rw [show an_best A w = (-2) by unfold an_best; rw [hx1]]
    rcases g1_n (by decide) hx1 with hr | hr
    · refine mm_I ok_Sc_best 0 1 1 [some (.ref 0), some (.int w)] [.int w] (hp_SH ++ dy, g, r) [] rfl trivial rfl rfl (fun _ => ?_) (fun q => False.elim (q hr))
      refine mm_B ok_Sc_best 5 1 (12, [some (.ref 0), some (.int w)], [.int (-2)], (hp_SH ++ dy, g, r)) [] rfl trivial ?_
      exact mm_ri rfl (mm_at ok_Sc_best (i := 6) rfl).1 ⟨Nat.le_refl _, Nat.le_refl _⟩ (RC_q rfl hI fr_.rf)
    · refine mm_I ok_Sc_best 0 1 1 [some (.ref 0), some (.int w)] [.int w] (hp_SH ++ dy, g, r) [] rfl trivial rfl rfl (fun q => False.elim (absurd (Int32.lt_trans hr q) (by decide))) (fun _ => ?_)
      refine mm_I ok_Sc_best 2 2 7 [some (.ref 0), some (.int w)] [.int 6, .int w] (hp_SH ++ dy, g, r) [] rfl trivial rfl rfl (fun q => False.elim (absurd hr (Int32.not_lt.mpr q))) (fun _ => ?_)
      refine mm_B ok_Sc_best 5 1 (12, [some (.ref 0), some (.int w)], [.int (-2)], (hp_SH ++ dy, g, r)) [] rfl trivial ?_
      exact mm_ri rfl (mm_at ok_Sc_best (i := 6) rfl).1 ⟨Nat.le_refl _, Nat.le_refl _⟩ (RC_q rfl hI fr_.rf)
  | some j =>
    obtain ⟨hl1, rfl⟩ := ix_some (by omega) hx1
    refine mm_I ok_Sc_best 0 1 1 [some (.ref 0), some (.int (nI j))] [.int (nI j)] (hp_SH ++ dy, g, r) [] rfl trivial rfl rfl (fun q => False.elim (nI_pos (n := j) (by omega) q)) (fun _ => ?_)
    refine mm_I ok_Sc_best 2 2 7 [some (.ref 0), some (.int (nI j))] [.int 6, .int (nI j)] (hp_SH ++ dy, g, r) [] rfl trivial rfl rfl (fun _ => ?_) (fun q => False.elim (q (nI_le (b := 6) (by omega) (by decide))))
    refine mm_B ok_Sc_best 7 4 (21, [some (.ref 0), some (.int (nI j))], [.ref 1, .ref 25], (hp_SH ++ dy, g, r)) [] rfl trivial ?_
    refine mm_cV (as := [.ref 1]) (st := []) (q := 25) cw_Se_find lk_Sc_196 in_Se_find sl_Se_find rfl rfl (mm_at ok_Sc_best (i := 11) rfl).1 (ct_Se_find dy g r (CI_SB hI) (fd_hf hI)) (by decide) ⟨by omega, by omega⟩ (Nat.le_of_ble_eq_true rfl) (mm_vs_b (b := 77) rfl (hp_len dy)) (fun v h' hqq => ?_)
    obtain ⟨hqv, g1, hqe, hF1, f1, f2, f3⟩ := hqq; subst hqv; rw [hqe]
    have hI1 := CI_find hI hF1 f1 f2 f3
    rcases Nat.eq_zero_or_pos j with hj | hj
    · subst hj
      rw [show an_best A (nI 0) = nI (bw_ A.1 (aC A) A.2.1) by unfold an_best; rw [hx1]]
      refine mm_I ok_Sc_best 12 1 25 [some (.ref 0), some (.int (nI 0))] [.int (nI 0)] (hp_SH ++ dy, g1, r) [] rfl trivial rfl rfl (fun q => False.elim (q rfl)) (fun _ => ?_)
      refine mm_B ok_Sc_best 14 4 (49, [some (.ref 0), some (.int (nI 0))], [.int (g1 25 1)], (hp_SH ++ dy, g1, r)) [] rfl trivial ?_
      rw [f2]
      exact mm_ri rfl (mm_at ok_Sc_best (i := 25) rfl).1 ⟨Nat.le_refl _, Nat.le_refl _⟩ (RC_g rfl hI1 (fd_hi hF1))
    · obtain ⟨b, rfl⟩ : ∃ b, j = b + 1 := ⟨j - 1, by omega⟩
      rw [show an_best A (nI (b + 1)) = pl_c (dec_ (A.1.1 + 1) (bc_ A.1 (aC A) A.2.1) b) by unfold an_best; rw [hx1]]
      have e1 : nI (b + 1) - 1 = nI b := nI_sub (a := b + 1) (b := 1) (by omega)
      refine mm_I ok_Sc_best 12 1 25 [some (.ref 0), some (.int (nI (b + 1)))] [.int (nI (b + 1))] (hp_SH ++ dy, g1, r) [] rfl trivial rfl rfl (fun _ => ?_) (fun q => False.elim (nI_ne0 (by omega) (by omega) q))
      refine mm_B ok_Sc_best 18 7 (49, [some (.ref 0), some (.int (nI (b + 1)))], [.int (g1 26 (((nI (b + 1)) - 1).toNatClampNeg))], (hp_SH ++ dy, g1, r)) [vp_in ((nI (b + 1)) - 1) 6] rfl (show vp_in ((nI (b + 1)) - 1) 6 from (by rw [e1]; exact nI_vi (by omega) (by decide))) ?_
      rw [e1, nI_clamp (show b < 2 ^ 31 by omega), f3 b (by omega)]
      exact mm_ri rfl (mm_at ok_Sc_best (i := 25) rfl).1 ⟨Nat.le_refl _, Nat.le_refl _⟩ (RC_g rfl hI1 (fd_hi hF1))

