/-! ===== the model's calls: count, told, taken, twice, change ===== -/
theorem mb_go (dy : List mm_Sh) (g : Nat → Nat → Int32) (r : (Nat → Nat → Int64) × Nat × (Nat → Int32)) {pl : Nat → Option Nat} (hpl : ∀ b, b < 6 → g 62 b = pl_c (pl b)) (hq : ∀ b l, b < 6 → pl b = some l → l < 4) {Q : Option Value → mm_Hp → Prop} {w : Int32} (hQ : Q (some (.int (nI (sp_cnt pl 6)))) (hp_SH ++ dy, g, r)) : ∀ (m k : Nat), k + m = 6 → mm_W 12 M_Mo_count 0 0 Q 0 0 (74, [some (.ref 52), some (.int w), some (.int (nI (sp_cnt pl k))), some (.int (nI k))], [], (hp_SH ++ dy, g, r)) := by
  intro m
  induction m with
  | zero =>
    intro k hk
    rw [show k = 6 by omega]
    refine mm_I ok_Mo_count 41 2 77 [some (.ref 52), some (.int w), some (.int (nI (sp_cnt pl 6))), some (.int (nI 6))] [.int 6, .int (nI 6)] (hp_SH ++ dy, g, r) [] rfl trivial rfl rfl (fun _ => ?_) (fun q => False.elim (q (by decide)))
    refine mm_B ok_Mo_count 58 1 (105, [some (.ref 52), some (.int w), some (.int (nI (sp_cnt pl 6))), some (.int (nI 6))], [.int (nI (sp_cnt pl 6))], (hp_SH ++ dy, g, r)) [] rfl trivial ?_
    exact mm_ri rfl (mm_at ok_Mo_count (i := 59) rfl).1 ⟨Nat.le_refl _, Nat.le_refl _⟩ (hQ)
  | succ m ih =>
    intro k hk
    refine mm_I ok_Mo_count 41 2 77 [some (.ref 52), some (.int w), some (.int (nI (sp_cnt pl k))), some (.int (nI k))] [.int 6, .int (nI k)] (hp_SH ++ dy, g, r) [] rfl trivial rfl rfl (fun q => False.elim (nI_ge (b := 6) (show k < 6 by omega) (by decide) q)) (fun _ => ?_)
    refine mm_B ok_Mo_count 44 6 (88, [some (.ref 52), some (.int w), some (.int (nI (sp_cnt pl k))), some (.int (nI k))], [.int (-1), .int (g 62 ((nI k).toNatClampNeg)), .int (nI (sp_cnt pl k))], (hp_SH ++ dy, g, r)) [vp_in (nI k) 12] rfl (show vp_in (nI k) 12 from (nI_vi (show k < 12 by omega) (by decide))) ?_
    rw [nI_clamp (show k < 2 ^ 31 by omega), hpl k (by omega)]
    cases hz : pl k with
    | none =>
      have hn : sp_cnt pl (k + 1) = sp_cnt pl k + 0 := by unfold sp_cnt; simp only [sp_sum]; rw [hz]
      refine mm_I ok_Mo_count 50 0 88 [some (.ref 52), some (.int w), some (.int (nI (sp_cnt pl k))), some (.int (nI k))] [.int (-1), .int (-1), .int (nI (sp_cnt pl k))] (hp_SH ++ dy, g, r) [] rfl trivial rfl rfl (fun q => False.elim (q rfl)) (fun _ => ?_)
      refine mm_B ok_Mo_count 51 2 (96, [some (.ref 52), some (.int w), some (.int (nI (sp_cnt pl k))), some (.int (nI k))], [.int 0, .int (nI (sp_cnt pl k))], (hp_SH ++ dy, g, r)) [] rfl trivial ?_
      refine mm_B ok_Mo_count 54 4 (74, [some (.ref 52), some (.int w), some (.int ((nI (sp_cnt pl k)) + 0)), some (.int ((nI k) + 1))], [], (hp_SH ++ dy, g, r)) [] rfl trivial ?_
      rw [nI_1 k, show nI (sp_cnt pl k) + 0 = nI (sp_cnt pl k + 0) from nI_add _ 0]
      have h8 := ih (k + 1) (by omega)
      rw [hn] at h8
      exact h8
    | some l =>
      have hn : sp_cnt pl (k + 1) = sp_cnt pl k + 1 := by unfold sp_cnt; simp only [sp_sum]; rw [hz]
      have hl := hq k l (by omega) hz
      refine mm_I ok_Mo_count 50 0 88 [some (.ref 52), some (.int w), some (.int (nI (sp_cnt pl k))), some (.int (nI k))] [.int (-1), .int (nI l), .int (nI (sp_cnt pl k))] (hp_SH ++ dy, g, r) [] rfl trivial rfl rfl (fun _ => ?_) (fun q => False.elim (m1_ne (show l < 2 ^ 31 by omega) q))
      refine mm_B ok_Mo_count 53 5 (74, [some (.ref 52), some (.int w), some (.int ((nI (sp_cnt pl k)) + 1)), some (.int ((nI k) + 1))], [], (hp_SH ++ dy, g, r)) [] rfl trivial ?_
      rw [nI_1 k, nI_1 (sp_cnt pl k)]
      have h8 := ih (k + 1) (by omega)
      rw [hn] at h8
      exact h8
theorem tm_f {T : sp_T} {g : Nat → Nat → Int32} {l : Nat} (h : rl_LM T (nr_ g)) (hl : l < T.1) : g 56 (nI l).toNatClampNeg = nI (T.2.1 l) ∧ g 57 (nI l).toNatClampNeg = nI (T.2.2.1 l) ∧ g 58 (nI l).toNatClampNeg = nI (T.2.2.2 l) ∧ T.2.1 l < 6 ∧ T.2.2.1 l < 10 ∧ T.2.2.2 l < 2 ^ l := by
  obtain ⟨a1, a4, a2, a5, a3, a6⟩ := h.2.2 l hl
  have := h.2.1
  rw [nI_clamp (show l < 2 ^ 31 by omega), ← nr_eq g (k := 56) (j := l) rfl, ← nr_eq g (k := 57) (j := l) rfl, ← nr_eq g (k := 58) (j := l) rfl]
  exact ⟨a1, a2, a3, a4, by omega, a6⟩
theorem tn_f {K : sp_K} {g : Nat → Nat → Int32} {l : Nat} (h : rl_CM K (nr_ g)) (hl : l < K.1) : g 59 (nI l).toNatClampNeg = nI (K.2.1 l) ∧ g 60 (nI l).toNatClampNeg = nI (K.2.2.1 l) ∧ g 61 (nI l).toNatClampNeg = nI (K.2.2.2 l) := by
  obtain ⟨a1, a2, a4, a5, a3⟩ := h.2.2 l hl
  have := h.2.1
  rw [nI_clamp (show l < 2 ^ 31 by omega), ← nr_eq g (k := 59) (j := l) rfl, ← nr_eq g (k := 60) (j := l) rfl, ← nr_eq g (k := 61) (j := l) rfl]
  exact ⟨a1, a2, a3⟩
theorem cm_count (dy : List mm_Sh) (g : Nat → Nat → Int32) (r : (Nat → Nat → Int64) × Nat × (Nat → Int32)) {A : sA} (hI : MI (nr_ g) A) (hSI : SI A) (w : Int32) : mm_Ct 12 M_Mo_count [.ref 52, .int w] (hp_SH ++ dy, g, r) 0 0 (RM dy g r A (.int (an_count A w))) := by
  have hI' := hI
  obtain ⟨hL, hK, hPl, hX, hB, hS, hIm⟩ := hI'
  have hR := dX_R hX
  have h4 := hL.2.1
  have h6 := hK.2.1
  have e10 : g 52 10 = nI A.1.1 := by rw [← nr_eq g (k := 52) (j := 10) rfl]; exact hL.1
  have e14 : g 52 14 = nI A.2.1.1 := by rw [← nr_eq g (k := 52) (j := 14) rfl]; exact hK.1
  have hpl : ∀ b, b < 6 → g 62 b = pl_c (A.2.2.1.1 b) := fun b hb => by rw [← nr_eq g (k := 62) (j := b) rfl]; exact (hPl b hb).1
  have hot : ∀ b, b < 6 → g 62 (6 + b) = pl_c (A.2.2.1.2 b) := fun b hb => by rw [← nr_eq g (k := 62) (j := 6 + b) rfl]; exact (hPl b hb).2
  have hpo : ∀ b l, b < 6 → A.2.2.1.1 b = some l → l < A.1.1 := fun b l hb h => hSI.1 b l hb (Or.inl h)
  refine mm_start pl_Mo (Nat.le_of_ble_eq_true rfl) ?_
  have e3 : g 52 3 = nI A.2.2.2.1.1 := by rw [← nr_eq g (k := 52) (j := 3) rfl]; exact hX.1
  have e4 : g 52 4 = nI A.2.2.2.1.2.2 := by rw [← nr_eq g (k := 52) (j := 4) rfl]; exact hX.2.2.1
  have e6 : g 52 6 = nI A.2.2.2.2.1.1 := by rw [← nr_eq g (k := 52) (j := 6) rfl]; exact hB.1
  cases hx : ix_ 6 w with
  | none =>
    rw [show an_count A w = -2 by unfold an_count; rw [hx]]
    refine mm_B ok_Mo_count 0 4 (6, [some (.ref 52), some (.int w), none, none], [.long 5, .long 0, .long (w).toInt64], (hp_SH ++ dy, g, r)) [] rfl trivial ?_
    refine mm_cS (as := [.long (w).toInt64, .long 0, .long 5]) (st := []) cw_Mo_in lk_Mo_100 sx_Mo_in (mm_at ok_Mo_count (i := 4) rfl).1 (ct_Mo_in (hp_SH ++ dy, g, r) w.toInt64 0 5) (by decide) ⟨by omega, by omega⟩ (Nat.le_of_ble_eq_true rfl) (mm_vs_b (b := 77) rfl (hp_len dy)) (fun v h' hqq => ?_)
    obtain ⟨rfl, hqe⟩ := hqq; rw [hqe]
    rw [in_6 w, hx]
    refine mm_I ok_Mo_count 5 0 9 [some (.ref 52), some (.int w), none, none] [.int (iz_ none)] (hp_SH ++ dy, g, r) [] rfl trivial rfl rfl (fun q => False.elim (q rfl)) (fun _ => ?_)
    refine mm_B ok_Mo_count 6 1 (14, [some (.ref 52), some (.int w), none, none], [.int (-2)], (hp_SH ++ dy, g, r)) [] rfl trivial ?_
    exact mm_ri rfl (mm_at ok_Mo_count (i := 7) rfl).1 ⟨Nat.le_refl _, Nat.le_refl _⟩ (RM_q rfl hI fr_.rf)
  | some j =>
    obtain ⟨hj, rfl⟩ := ix_some (by decide) hx
    rcases (show j = 0 ∨ j = 1 ∨ j = 2 ∨ j = 3 ∨ j = 4 ∨ j = 5 by omega) with rfl | rfl | rfl | rfl | rfl | rfl
    · rw [show an_count A (nI 0) = nI A.1.1 by unfold an_count; rw [hx]; rfl]
      refine mm_B ok_Mo_count 0 4 (6, [some (.ref 52), some (.int (nI 0)), none, none], [.long 5, .long 0, .long ((nI 0)).toInt64], (hp_SH ++ dy, g, r)) [] rfl trivial ?_
      refine mm_cS (as := [.long ((nI 0)).toInt64, .long 0, .long 5]) (st := []) cw_Mo_in lk_Mo_100 sx_Mo_in (mm_at ok_Mo_count (i := 4) rfl).1 (ct_Mo_in (hp_SH ++ dy, g, r) (nI 0).toInt64 0 5) (by decide) ⟨by omega, by omega⟩ (Nat.le_of_ble_eq_true rfl) (mm_vs_b (b := 77) rfl (hp_len dy)) (fun v h' hqq => ?_)
      obtain ⟨rfl, hqe⟩ := hqq; rw [hqe]
      rw [in_6 (nI 0), hx]
      refine mm_I ok_Mo_count 5 0 9 [some (.ref 52), some (.int (nI 0)), none, none] [.int (iz_ (some 0))] (hp_SH ++ dy, g, r) [] rfl trivial rfl rfl (fun _ => ?_) (fun q => False.elim (one0 q))
      refine mm_I ok_Mo_count 8 2 17 [some (.ref 52), some (.int (nI 0)), none, none] [.int 2, .int (nI 0)] (hp_SH ++ dy, g, r) [] rfl trivial rfl rfl (fun q => False.elim (absurd q (by decide))) (fun _ => ?_)
      refine mm_I ok_Mo_count 11 1 21 [some (.ref 52), some (.int (nI 0)), none, none] [.int (nI 0)] (hp_SH ++ dy, g, r) [] rfl trivial rfl rfl (fun q => False.elim (absurd q (by decide))) (fun _ => ?_)
      refine mm_B ok_Mo_count 13 3 (35, [some (.ref 52), some (.int (nI 0)), none, none], [.int (g 52 10)], (hp_SH ++ dy, g, r)) [] rfl trivial ?_
      rw [e10]
      exact mm_ri rfl (mm_at ok_Mo_count (i := 18) rfl).1 ⟨Nat.le_refl _, Nat.le_refl _⟩ (RM_q rfl hI fr_.rf)
    · rw [show an_count A (nI 1) = nI A.2.1.1 by unfold an_count; rw [hx]; rfl]
      refine mm_B ok_Mo_count 0 4 (6, [some (.ref 52), some (.int (nI 1)), none, none], [.long 5, .long 0, .long ((nI 1)).toInt64], (hp_SH ++ dy, g, r)) [] rfl trivial ?_
      refine mm_cS (as := [.long ((nI 1)).toInt64, .long 0, .long 5]) (st := []) cw_Mo_in lk_Mo_100 sx_Mo_in (mm_at ok_Mo_count (i := 4) rfl).1 (ct_Mo_in (hp_SH ++ dy, g, r) (nI 1).toInt64 0 5) (by decide) ⟨by omega, by omega⟩ (Nat.le_of_ble_eq_true rfl) (mm_vs_b (b := 77) rfl (hp_len dy)) (fun v h' hqq => ?_)
      obtain ⟨rfl, hqe⟩ := hqq; rw [hqe]
      rw [in_6 (nI 1), hx]
      refine mm_I ok_Mo_count 5 0 9 [some (.ref 52), some (.int (nI 1)), none, none] [.int (iz_ (some 1))] (hp_SH ++ dy, g, r) [] rfl trivial rfl rfl (fun _ => ?_) (fun q => False.elim (one0 q))
      refine mm_I ok_Mo_count 8 2 17 [some (.ref 52), some (.int (nI 1)), none, none] [.int 2, .int (nI 1)] (hp_SH ++ dy, g, r) [] rfl trivial rfl rfl (fun q => False.elim (absurd q (by decide))) (fun _ => ?_)
      refine mm_I ok_Mo_count 11 1 21 [some (.ref 52), some (.int (nI 1)), none, none] [.int (nI 1)] (hp_SH ++ dy, g, r) [] rfl trivial rfl rfl (fun _ => ?_) (fun q => False.elim (absurd q (by decide)))
      refine mm_B ok_Mo_count 16 2 (35, [some (.ref 52), some (.int (nI 1)), none, none], [.int (g 52 14)], (hp_SH ++ dy, g, r)) [] rfl trivial ?_
      rw [e14]
      exact mm_ri rfl (mm_at ok_Mo_count (i := 18) rfl).1 ⟨Nat.le_refl _, Nat.le_refl _⟩ (RM_q rfl hI fr_.rf)
    · rw [show an_count A (nI 2) = nI (sp_cnt A.2.2.1.1 6) by unfold an_count; rw [hx]; rfl]
      refine mm_B ok_Mo_count 0 4 (6, [some (.ref 52), some (.int (nI 2)), none, none], [.long 5, .long 0, .long ((nI 2)).toInt64], (hp_SH ++ dy, g, r)) [] rfl trivial ?_
      refine mm_cS (as := [.long ((nI 2)).toInt64, .long 0, .long 5]) (st := []) cw_Mo_in lk_Mo_100 sx_Mo_in (mm_at ok_Mo_count (i := 4) rfl).1 (ct_Mo_in (hp_SH ++ dy, g, r) (nI 2).toInt64 0 5) (by decide) ⟨by omega, by omega⟩ (Nat.le_of_ble_eq_true rfl) (mm_vs_b (b := 77) rfl (hp_len dy)) (fun v h' hqq => ?_)
      obtain ⟨rfl, hqe⟩ := hqq; rw [hqe]
      rw [in_6 (nI 2), hx]
      refine mm_I ok_Mo_count 5 0 9 [some (.ref 52), some (.int (nI 2)), none, none] [.int (iz_ (some 2))] (hp_SH ++ dy, g, r) [] rfl trivial rfl rfl (fun _ => ?_) (fun q => False.elim (one0 q))
      refine mm_I ok_Mo_count 8 2 17 [some (.ref 52), some (.int (nI 2)), none, none] [.int 2, .int (nI 2)] (hp_SH ++ dy, g, r) [] rfl trivial rfl rfl (fun _ => ?_) (fun q => False.elim (absurd q (by decide)))
      refine mm_I ok_Mo_count 19 2 38 [some (.ref 52), some (.int (nI 2)), none, none] [.int 2, .int (nI 2)] (hp_SH ++ dy, g, r) [] rfl trivial rfl rfl (fun _ => ?_) (fun q => False.elim (absurd q (by decide)))
      refine mm_B ok_Mo_count 37 4 (74, [some (.ref 52), some (.int (nI 2)), some (.int 0), some (.int 0)], [], (hp_SH ++ dy, g, r)) [] rfl trivial ?_
      exact mb_go dy g r hpl (fun b l hb h => by have := hpo b l hb h; omega) (RM_q rfl hI fr_.rf) 6 0 rfl
    · rw [show an_count A (nI 3) = nI A.2.2.2.1.1 by unfold an_count; rw [hx]; rfl]
      refine mm_B ok_Mo_count 0 4 (6, [some (.ref 52), some (.int (nI 3)), none, none], [.long 5, .long 0, .long ((nI 3)).toInt64], (hp_SH ++ dy, g, r)) [] rfl trivial ?_
      refine mm_cS (as := [.long ((nI 3)).toInt64, .long 0, .long 5]) (st := []) cw_Mo_in lk_Mo_100 sx_Mo_in (mm_at ok_Mo_count (i := 4) rfl).1 (ct_Mo_in (hp_SH ++ dy, g, r) (nI 3).toInt64 0 5) (by decide) ⟨by omega, by omega⟩ (Nat.le_of_ble_eq_true rfl) (mm_vs_b (b := 77) rfl (hp_len dy)) (fun v h' hqq => ?_)
      obtain ⟨rfl, hqe⟩ := hqq; rw [hqe]
      rw [in_6 (nI 3), hx]
      refine mm_I ok_Mo_count 5 0 9 [some (.ref 52), some (.int (nI 3)), none, none] [.int (iz_ (some 3))] (hp_SH ++ dy, g, r) [] rfl trivial rfl rfl (fun _ => ?_) (fun q => False.elim (one0 q))
      refine mm_I ok_Mo_count 8 2 17 [some (.ref 52), some (.int (nI 3)), none, none] [.int 2, .int (nI 3)] (hp_SH ++ dy, g, r) [] rfl trivial rfl rfl (fun _ => ?_) (fun q => False.elim (absurd q (by decide)))
      refine mm_I ok_Mo_count 19 2 38 [some (.ref 52), some (.int (nI 3)), none, none] [.int 2, .int (nI 3)] (hp_SH ++ dy, g, r) [] rfl trivial rfl rfl (fun q => False.elim (absurd q (by decide))) (fun _ => ?_)
      refine mm_I ok_Mo_count 22 2 43 [some (.ref 52), some (.int (nI 3)), none, none] [.int 3, .int (nI 3)] (hp_SH ++ dy, g, r) [] rfl trivial rfl rfl (fun q => False.elim (absurd q (by decide))) (fun _ => ?_)
      refine mm_B ok_Mo_count 25 3 (69, [some (.ref 52), some (.int (nI 3)), none, none], [.int (g 52 3)], (hp_SH ++ dy, g, r)) [] rfl trivial ?_
      rw [e3]
      exact mm_ri rfl (mm_at ok_Mo_count (i := 36) rfl).1 ⟨Nat.le_refl _, Nat.le_refl _⟩ (RM_q rfl hI fr_.rf)
    · rw [show an_count A (nI 4) = nI A.2.2.2.2.1.1 by unfold an_count; rw [hx]; rfl]
      refine mm_B ok_Mo_count 0 4 (6, [some (.ref 52), some (.int (nI 4)), none, none], [.long 5, .long 0, .long ((nI 4)).toInt64], (hp_SH ++ dy, g, r)) [] rfl trivial ?_
      refine mm_cS (as := [.long ((nI 4)).toInt64, .long 0, .long 5]) (st := []) cw_Mo_in lk_Mo_100 sx_Mo_in (mm_at ok_Mo_count (i := 4) rfl).1 (ct_Mo_in (hp_SH ++ dy, g, r) (nI 4).toInt64 0 5) (by decide) ⟨by omega, by omega⟩ (Nat.le_of_ble_eq_true rfl) (mm_vs_b (b := 77) rfl (hp_len dy)) (fun v h' hqq => ?_)
      obtain ⟨rfl, hqe⟩ := hqq; rw [hqe]
      rw [in_6 (nI 4), hx]
      refine mm_I ok_Mo_count 5 0 9 [some (.ref 52), some (.int (nI 4)), none, none] [.int (iz_ (some 4))] (hp_SH ++ dy, g, r) [] rfl trivial rfl rfl (fun _ => ?_) (fun q => False.elim (one0 q))
      refine mm_I ok_Mo_count 8 2 17 [some (.ref 52), some (.int (nI 4)), none, none] [.int 2, .int (nI 4)] (hp_SH ++ dy, g, r) [] rfl trivial rfl rfl (fun _ => ?_) (fun q => False.elim (absurd q (by decide)))
      refine mm_I ok_Mo_count 19 2 38 [some (.ref 52), some (.int (nI 4)), none, none] [.int 2, .int (nI 4)] (hp_SH ++ dy, g, r) [] rfl trivial rfl rfl (fun q => False.elim (absurd q (by decide))) (fun _ => ?_)
      refine mm_I ok_Mo_count 22 2 43 [some (.ref 52), some (.int (nI 4)), none, none] [.int 3, .int (nI 4)] (hp_SH ++ dy, g, r) [] rfl trivial rfl rfl (fun _ => ?_) (fun q => False.elim (absurd q (by decide)))
      refine mm_I ok_Mo_count 28 2 55 [some (.ref 52), some (.int (nI 4)), none, none] [.int 4, .int (nI 4)] (hp_SH ++ dy, g, r) [] rfl trivial rfl rfl (fun q => False.elim (absurd q (by decide))) (fun _ => ?_)
      refine mm_B ok_Mo_count 31 3 (69, [some (.ref 52), some (.int (nI 4)), none, none], [.int (g 52 6)], (hp_SH ++ dy, g, r)) [] rfl trivial ?_
      rw [e6]
      exact mm_ri rfl (mm_at ok_Mo_count (i := 36) rfl).1 ⟨Nat.le_refl _, Nat.le_refl _⟩ (RM_q rfl hI fr_.rf)
    · rw [show an_count A (nI 5) = nI A.2.2.2.1.2.2 by unfold an_count; rw [hx]; rfl]
      refine mm_B ok_Mo_count 0 4 (6, [some (.ref 52), some (.int (nI 5)), none, none], [.long 5, .long 0, .long ((nI 5)).toInt64], (hp_SH ++ dy, g, r)) [] rfl trivial ?_
      refine mm_cS (as := [.long ((nI 5)).toInt64, .long 0, .long 5]) (st := []) cw_Mo_in lk_Mo_100 sx_Mo_in (mm_at ok_Mo_count (i := 4) rfl).1 (ct_Mo_in (hp_SH ++ dy, g, r) (nI 5).toInt64 0 5) (by decide) ⟨by omega, by omega⟩ (Nat.le_of_ble_eq_true rfl) (mm_vs_b (b := 77) rfl (hp_len dy)) (fun v h' hqq => ?_)
      obtain ⟨rfl, hqe⟩ := hqq; rw [hqe]
      rw [in_6 (nI 5), hx]
      refine mm_I ok_Mo_count 5 0 9 [some (.ref 52), some (.int (nI 5)), none, none] [.int (iz_ (some 5))] (hp_SH ++ dy, g, r) [] rfl trivial rfl rfl (fun _ => ?_) (fun q => False.elim (one0 q))
      refine mm_I ok_Mo_count 8 2 17 [some (.ref 52), some (.int (nI 5)), none, none] [.int 2, .int (nI 5)] (hp_SH ++ dy, g, r) [] rfl trivial rfl rfl (fun _ => ?_) (fun q => False.elim (absurd q (by decide)))
      refine mm_I ok_Mo_count 19 2 38 [some (.ref 52), some (.int (nI 5)), none, none] [.int 2, .int (nI 5)] (hp_SH ++ dy, g, r) [] rfl trivial rfl rfl (fun q => False.elim (absurd q (by decide))) (fun _ => ?_)
      refine mm_I ok_Mo_count 22 2 43 [some (.ref 52), some (.int (nI 5)), none, none] [.int 3, .int (nI 5)] (hp_SH ++ dy, g, r) [] rfl trivial rfl rfl (fun _ => ?_) (fun q => False.elim (absurd q (by decide)))
      refine mm_I ok_Mo_count 28 2 55 [some (.ref 52), some (.int (nI 5)), none, none] [.int 4, .int (nI 5)] (hp_SH ++ dy, g, r) [] rfl trivial rfl rfl (fun _ => ?_) (fun q => False.elim (absurd q (by decide)))
      refine mm_B ok_Mo_count 34 2 (69, [some (.ref 52), some (.int (nI 5)), none, none], [.int (g 52 4)], (hp_SH ++ dy, g, r)) [] rfl trivial ?_
      rw [e4]
      exact mm_ri rfl (mm_at ok_Mo_count (i := 36) rfl).1 ⟨Nat.le_refl _, Nat.le_refl _⟩ (RM_q rfl hI fr_.rf)
theorem cm_told (dy : List mm_Sh) (g : Nat → Nat → Int32) (r : (Nat → Nat → Int64) × Nat × (Nat → Int32)) {A : sA} (hI : MI (nr_ g) A) (hSI : SI A) (o w : Int32) : mm_Ct 12 M_Mo_told [.ref 52, .int o, .int w] (hp_SH ++ dy, g, r) 0 0 (RM dy g r A (.int (an_told A o w))) := by
  have hI' := hI
  obtain ⟨hL, hK, hPl, hX, hB, hS, hIm⟩ := hI'
  have hR := dX_R hX
  have h4 := hL.2.1
  have h6 := hK.2.1
  have e10 : g 52 10 = nI A.1.1 := by rw [← nr_eq g (k := 52) (j := 10) rfl]; exact hL.1
  have e14 : g 52 14 = nI A.2.1.1 := by rw [← nr_eq g (k := 52) (j := 14) rfl]; exact hK.1
  have hpl : ∀ b, b < 6 → g 62 b = pl_c (A.2.2.1.1 b) := fun b hb => by rw [← nr_eq g (k := 62) (j := b) rfl]; exact (hPl b hb).1
  have hot : ∀ b, b < 6 → g 62 (6 + b) = pl_c (A.2.2.1.2 b) := fun b hb => by rw [← nr_eq g (k := 62) (j := 6 + b) rfl]; exact (hPl b hb).2
  have hpo : ∀ b l, b < 6 → A.2.2.1.1 b = some l → l < A.1.1 := fun b l hb h => hSI.1 b l hb (Or.inl h)
  refine mm_start pl_Mo (Nat.le_of_ble_eq_true rfl) ?_
  cases hx : ix_ 8 w with
  | none =>
    rw [show an_told A o w = -2 by unfold an_told; rw [hx]]
    refine mm_B ok_Mo_told 0 4 (6, [some (.ref 52), some (.int o), some (.int w)], [.long 7, .long 0, .long (w).toInt64], (hp_SH ++ dy, g, r)) [] rfl trivial ?_
    refine mm_cS (as := [.long (w).toInt64, .long 0, .long 7]) (st := []) cw_Mo_in lk_Mo_100 sx_Mo_in (mm_at ok_Mo_told (i := 4) rfl).1 (ct_Mo_in (hp_SH ++ dy, g, r) w.toInt64 0 7) (by decide) ⟨by omega, by omega⟩ (Nat.le_of_ble_eq_true rfl) (mm_vs_b (b := 77) rfl (hp_len dy)) (fun v h' hqq => ?_)
    obtain ⟨rfl, hqe⟩ := hqq; rw [hqe]
    rw [in_8 w, hx]
    refine mm_I ok_Mo_told 5 0 9 [some (.ref 52), some (.int o), some (.int w)] [.int (iz_ none)] (hp_SH ++ dy, g, r) [] rfl trivial rfl rfl (fun _ => ?_) (fun q => False.elim (q rfl))
    refine mm_B ok_Mo_told 18 1 (38, [some (.ref 52), some (.int o), some (.int w)], [.int (-2)], (hp_SH ++ dy, g, r)) [] rfl trivial ?_
    exact mm_ri rfl (mm_at ok_Mo_told (i := 19) rfl).1 ⟨Nat.le_refl _, Nat.le_refl _⟩ (RM_q rfl hI fr_.rf)
  | some j =>
    obtain ⟨hj, rfl⟩ := ix_some (by decide) hx
    rcases (show j = 0 ∨ j = 1 ∨ j = 2 ∨ j = 3 ∨ j = 4 ∨ j = 5 ∨ j = 6 ∨ j = 7 by omega) with rfl | rfl | rfl | rfl | rfl | rfl | rfl | rfl
    · cases hy : ix_ A.1.1 o with
      | none =>
        rw [show an_told A o (nI 0) = -2 by unfold an_told; rw [hx]; show (match ix_ A.1.1 o with | none => _ | some l => _) = _; rw [hy]]
        refine mm_B ok_Mo_told 0 4 (6, [some (.ref 52), some (.int o), some (.int (nI 0))], [.long 7, .long 0, .long ((nI 0)).toInt64], (hp_SH ++ dy, g, r)) [] rfl trivial ?_
        refine mm_cS (as := [.long ((nI 0)).toInt64, .long 0, .long 7]) (st := []) cw_Mo_in lk_Mo_100 sx_Mo_in (mm_at ok_Mo_told (i := 4) rfl).1 (ct_Mo_in (hp_SH ++ dy, g, r) (nI 0).toInt64 0 7) (by decide) ⟨by omega, by omega⟩ (Nat.le_of_ble_eq_true rfl) (mm_vs_b (b := 77) rfl (hp_len dy)) (fun v h' hqq => ?_)
        obtain ⟨rfl, hqe⟩ := hqq; rw [hqe]
        rw [in_8 (nI 0), hx]
        refine mm_I ok_Mo_told 5 0 9 [some (.ref 52), some (.int o), some (.int (nI 0))] [.int (iz_ (some 0))] (hp_SH ++ dy, g, r) [] rfl trivial rfl rfl (fun q => False.elim (one0 q)) (fun _ => ?_)
        refine mm_I ok_Mo_told 6 2 14 [some (.ref 52), some (.int o), some (.int (nI 0))] [.int 5, .int (nI 0)] (hp_SH ++ dy, g, r) [] rfl trivial rfl rfl (fun q => False.elim (absurd q (by decide))) (fun _ => ?_)
        refine mm_B ok_Mo_told 9 2 (19, [some (.ref 52), some (.int o), some (.int (nI 0))], [.int o, .ref 52], (hp_SH ++ dy, g, r)) [] rfl trivial ?_
        refine mm_cV (as := [.int o]) (st := []) (q := 52) cw_Mo_isLesson lk_Mo_117 in_Mo_isLesson sl_Mo_isLesson rfl rfl (mm_at ok_Mo_told (i := 11) rfl).1 (ct_Mo_isLesson dy g r o) (by decide) ⟨by omega, by omega⟩ (Nat.le_of_ble_eq_true rfl) (mm_vs_b (b := 77) rfl (hp_len dy)) (fun v h' hqq => ?_)
        obtain ⟨rfl, hqe⟩ := hqq; rw [hqe]
        rw [ml_x (by omega) e10 o, hy]
        refine mm_I ok_Mo_told 12 0 22 [some (.ref 52), some (.int o), some (.int (nI 0))] [.int (iz_ none)] (hp_SH ++ dy, g, r) [] rfl trivial rfl rfl (fun _ => ?_) (fun q => False.elim (q rfl))
        refine mm_B ok_Mo_told 18 1 (38, [some (.ref 52), some (.int o), some (.int (nI 0))], [.int (-2)], (hp_SH ++ dy, g, r)) [] rfl trivial ?_
        exact mm_ri rfl (mm_at ok_Mo_told (i := 19) rfl).1 ⟨Nat.le_refl _, Nat.le_refl _⟩ (RM_q rfl hI fr_.rf)
      | some l =>
        obtain ⟨hl, rfl⟩ := ix_some (by omega) hy
        obtain ⟨e3, e4, e5, k6, k9, k16⟩ := tm_f hL hl
        rw [show an_told A (nI l) (nI 0) = nI (A.1.2.1 l) by unfold an_told; rw [hx]; show (match ix_ A.1.1 (nI l) with | none => _ | some l => _) = _; rw [hy]; rfl]
        refine mm_B ok_Mo_told 0 4 (6, [some (.ref 52), some (.int (nI l)), some (.int (nI 0))], [.long 7, .long 0, .long ((nI 0)).toInt64], (hp_SH ++ dy, g, r)) [] rfl trivial ?_
        refine mm_cS (as := [.long ((nI 0)).toInt64, .long 0, .long 7]) (st := []) cw_Mo_in lk_Mo_100 sx_Mo_in (mm_at ok_Mo_told (i := 4) rfl).1 (ct_Mo_in (hp_SH ++ dy, g, r) (nI 0).toInt64 0 7) (by decide) ⟨by omega, by omega⟩ (Nat.le_of_ble_eq_true rfl) (mm_vs_b (b := 77) rfl (hp_len dy)) (fun v h' hqq => ?_)
        obtain ⟨rfl, hqe⟩ := hqq; rw [hqe]
        rw [in_8 (nI 0), hx]
        refine mm_I ok_Mo_told 5 0 9 [some (.ref 52), some (.int (nI l)), some (.int (nI 0))] [.int (iz_ (some 0))] (hp_SH ++ dy, g, r) [] rfl trivial rfl rfl (fun q => False.elim (one0 q)) (fun _ => ?_)
        refine mm_I ok_Mo_told 6 2 14 [some (.ref 52), some (.int (nI l)), some (.int (nI 0))] [.int 5, .int (nI 0)] (hp_SH ++ dy, g, r) [] rfl trivial rfl rfl (fun q => False.elim (absurd q (by decide))) (fun _ => ?_)
        refine mm_B ok_Mo_told 9 2 (19, [some (.ref 52), some (.int (nI l)), some (.int (nI 0))], [.int (nI l), .ref 52], (hp_SH ++ dy, g, r)) [] rfl trivial ?_
        refine mm_cV (as := [.int (nI l)]) (st := []) (q := 52) cw_Mo_isLesson lk_Mo_117 in_Mo_isLesson sl_Mo_isLesson rfl rfl (mm_at ok_Mo_told (i := 11) rfl).1 (ct_Mo_isLesson dy g r (nI l)) (by decide) ⟨by omega, by omega⟩ (Nat.le_of_ble_eq_true rfl) (mm_vs_b (b := 77) rfl (hp_len dy)) (fun v h' hqq => ?_)
        obtain ⟨rfl, hqe⟩ := hqq; rw [hqe]
        rw [ml_x (by omega) e10 (nI l), hy]
        refine mm_I ok_Mo_told 12 0 22 [some (.ref 52), some (.int (nI l)), some (.int (nI 0))] [.int (iz_ (some l))] (hp_SH ++ dy, g, r) [] rfl trivial rfl rfl (fun q => False.elim (one0 q)) (fun _ => ?_)
        refine mm_B ok_Mo_told 13 1 (39, [some (.ref 52), some (.int (nI l)), some (.int (nI 0))], [], (hp_SH ++ dy, g, r)) [] rfl trivial ?_
        refine mm_I ok_Mo_told 20 2 41 [some (.ref 52), some (.int (nI l)), some (.int (nI 0))] [.int 3, .int (nI 0)] (hp_SH ++ dy, g, r) [] rfl trivial rfl rfl (fun q => False.elim (absurd q (by decide))) (fun _ => ?_)
        refine mm_I ok_Mo_told 23 1 45 [some (.ref 52), some (.int (nI l)), some (.int (nI 0))] [.int (nI 0)] (hp_SH ++ dy, g, r) [] rfl trivial rfl rfl (fun q => False.elim (absurd q (by decide))) (fun _ => ?_)
        refine mm_B ok_Mo_told 25 5 (77, [some (.ref 52), some (.int (nI l)), some (.int (nI 0))], [.int (g 56 ((nI l).toNatClampNeg))], (hp_SH ++ dy, g, r)) [vp_in (nI l) 4] rfl (show vp_in (nI l) 4 from (nI_vi (by omega) (by decide))) ?_
        rw [e3]
        exact mm_ri rfl (mm_at ok_Mo_told (i := 42) rfl).1 ⟨Nat.le_refl _, Nat.le_refl _⟩ (RM_q rfl hI fr_.rf)
    · cases hy : ix_ A.1.1 o with
      | none =>
        rw [show an_told A o (nI 1) = -2 by unfold an_told; rw [hx]; show (match ix_ A.1.1 o with | none => _ | some l => _) = _; rw [hy]]
        refine mm_B ok_Mo_told 0 4 (6, [some (.ref 52), some (.int o), some (.int (nI 1))], [.long 7, .long 0, .long ((nI 1)).toInt64], (hp_SH ++ dy, g, r)) [] rfl trivial ?_
        refine mm_cS (as := [.long ((nI 1)).toInt64, .long 0, .long 7]) (st := []) cw_Mo_in lk_Mo_100 sx_Mo_in (mm_at ok_Mo_told (i := 4) rfl).1 (ct_Mo_in (hp_SH ++ dy, g, r) (nI 1).toInt64 0 7) (by decide) ⟨by omega, by omega⟩ (Nat.le_of_ble_eq_true rfl) (mm_vs_b (b := 77) rfl (hp_len dy)) (fun v h' hqq => ?_)
        obtain ⟨rfl, hqe⟩ := hqq; rw [hqe]
        rw [in_8 (nI 1), hx]
        refine mm_I ok_Mo_told 5 0 9 [some (.ref 52), some (.int o), some (.int (nI 1))] [.int (iz_ (some 1))] (hp_SH ++ dy, g, r) [] rfl trivial rfl rfl (fun q => False.elim (one0 q)) (fun _ => ?_)
        refine mm_I ok_Mo_told 6 2 14 [some (.ref 52), some (.int o), some (.int (nI 1))] [.int 5, .int (nI 1)] (hp_SH ++ dy, g, r) [] rfl trivial rfl rfl (fun q => False.elim (absurd q (by decide))) (fun _ => ?_)
        refine mm_B ok_Mo_told 9 2 (19, [some (.ref 52), some (.int o), some (.int (nI 1))], [.int o, .ref 52], (hp_SH ++ dy, g, r)) [] rfl trivial ?_
        refine mm_cV (as := [.int o]) (st := []) (q := 52) cw_Mo_isLesson lk_Mo_117 in_Mo_isLesson sl_Mo_isLesson rfl rfl (mm_at ok_Mo_told (i := 11) rfl).1 (ct_Mo_isLesson dy g r o) (by decide) ⟨by omega, by omega⟩ (Nat.le_of_ble_eq_true rfl) (mm_vs_b (b := 77) rfl (hp_len dy)) (fun v h' hqq => ?_)
        obtain ⟨rfl, hqe⟩ := hqq; rw [hqe]
        rw [ml_x (by omega) e10 o, hy]
        refine mm_I ok_Mo_told 12 0 22 [some (.ref 52), some (.int o), some (.int (nI 1))] [.int (iz_ none)] (hp_SH ++ dy, g, r) [] rfl trivial rfl rfl (fun _ => ?_) (fun q => False.elim (q rfl))
        refine mm_B ok_Mo_told 18 1 (38, [some (.ref 52), some (.int o), some (.int (nI 1))], [.int (-2)], (hp_SH ++ dy, g, r)) [] rfl trivial ?_
        exact mm_ri rfl (mm_at ok_Mo_told (i := 19) rfl).1 ⟨Nat.le_refl _, Nat.le_refl _⟩ (RM_q rfl hI fr_.rf)
      | some l =>
        obtain ⟨hl, rfl⟩ := ix_some (by omega) hy
        obtain ⟨e3, e4, e5, k6, k9, k16⟩ := tm_f hL hl
        rw [show an_told A (nI l) (nI 1) = nI (A.1.2.2.1 l) by unfold an_told; rw [hx]; show (match ix_ A.1.1 (nI l) with | none => _ | some l => _) = _; rw [hy]; rfl]
        refine mm_B ok_Mo_told 0 4 (6, [some (.ref 52), some (.int (nI l)), some (.int (nI 1))], [.long 7, .long 0, .long ((nI 1)).toInt64], (hp_SH ++ dy, g, r)) [] rfl trivial ?_
        refine mm_cS (as := [.long ((nI 1)).toInt64, .long 0, .long 7]) (st := []) cw_Mo_in lk_Mo_100 sx_Mo_in (mm_at ok_Mo_told (i := 4) rfl).1 (ct_Mo_in (hp_SH ++ dy, g, r) (nI 1).toInt64 0 7) (by decide) ⟨by omega, by omega⟩ (Nat.le_of_ble_eq_true rfl) (mm_vs_b (b := 77) rfl (hp_len dy)) (fun v h' hqq => ?_)
        obtain ⟨rfl, hqe⟩ := hqq; rw [hqe]
        rw [in_8 (nI 1), hx]
        refine mm_I ok_Mo_told 5 0 9 [some (.ref 52), some (.int (nI l)), some (.int (nI 1))] [.int (iz_ (some 1))] (hp_SH ++ dy, g, r) [] rfl trivial rfl rfl (fun q => False.elim (one0 q)) (fun _ => ?_)
        refine mm_I ok_Mo_told 6 2 14 [some (.ref 52), some (.int (nI l)), some (.int (nI 1))] [.int 5, .int (nI 1)] (hp_SH ++ dy, g, r) [] rfl trivial rfl rfl (fun q => False.elim (absurd q (by decide))) (fun _ => ?_)
        refine mm_B ok_Mo_told 9 2 (19, [some (.ref 52), some (.int (nI l)), some (.int (nI 1))], [.int (nI l), .ref 52], (hp_SH ++ dy, g, r)) [] rfl trivial ?_
        refine mm_cV (as := [.int (nI l)]) (st := []) (q := 52) cw_Mo_isLesson lk_Mo_117 in_Mo_isLesson sl_Mo_isLesson rfl rfl (mm_at ok_Mo_told (i := 11) rfl).1 (ct_Mo_isLesson dy g r (nI l)) (by decide) ⟨by omega, by omega⟩ (Nat.le_of_ble_eq_true rfl) (mm_vs_b (b := 77) rfl (hp_len dy)) (fun v h' hqq => ?_)
        obtain ⟨rfl, hqe⟩ := hqq; rw [hqe]
        rw [ml_x (by omega) e10 (nI l), hy]
        refine mm_I ok_Mo_told 12 0 22 [some (.ref 52), some (.int (nI l)), some (.int (nI 1))] [.int (iz_ (some l))] (hp_SH ++ dy, g, r) [] rfl trivial rfl rfl (fun q => False.elim (one0 q)) (fun _ => ?_)
        refine mm_B ok_Mo_told 13 1 (39, [some (.ref 52), some (.int (nI l)), some (.int (nI 1))], [], (hp_SH ++ dy, g, r)) [] rfl trivial ?_
        refine mm_I ok_Mo_told 20 2 41 [some (.ref 52), some (.int (nI l)), some (.int (nI 1))] [.int 3, .int (nI 1)] (hp_SH ++ dy, g, r) [] rfl trivial rfl rfl (fun q => False.elim (absurd q (by decide))) (fun _ => ?_)
        refine mm_I ok_Mo_told 23 1 45 [some (.ref 52), some (.int (nI l)), some (.int (nI 1))] [.int (nI 1)] (hp_SH ++ dy, g, r) [] rfl trivial rfl rfl (fun _ => ?_) (fun q => False.elim (absurd q (by decide)))
        refine mm_I ok_Mo_told 30 2 59 [some (.ref 52), some (.int (nI l)), some (.int (nI 1))] [.int 1, .int (nI 1)] (hp_SH ++ dy, g, r) [] rfl trivial rfl rfl (fun q => False.elim (absurd q (by decide))) (fun _ => ?_)
        refine mm_B ok_Mo_told 33 5 (77, [some (.ref 52), some (.int (nI l)), some (.int (nI 1))], [.int (g 57 ((nI l).toNatClampNeg))], (hp_SH ++ dy, g, r)) [vp_in (nI l) 4] rfl (show vp_in (nI l) 4 from (nI_vi (by omega) (by decide))) ?_
        rw [e4]
        exact mm_ri rfl (mm_at ok_Mo_told (i := 42) rfl).1 ⟨Nat.le_refl _, Nat.le_refl _⟩ (RM_q rfl hI fr_.rf)
    · cases hy : ix_ A.1.1 o with
      | none =>
        rw [show an_told A o (nI 2) = -2 by unfold an_told; rw [hx]; show (match ix_ A.1.1 o with | none => _ | some l => _) = _; rw [hy]]
        refine mm_B ok_Mo_told 0 4 (6, [some (.ref 52), some (.int o), some (.int (nI 2))], [.long 7, .long 0, .long ((nI 2)).toInt64], (hp_SH ++ dy, g, r)) [] rfl trivial ?_
        refine mm_cS (as := [.long ((nI 2)).toInt64, .long 0, .long 7]) (st := []) cw_Mo_in lk_Mo_100 sx_Mo_in (mm_at ok_Mo_told (i := 4) rfl).1 (ct_Mo_in (hp_SH ++ dy, g, r) (nI 2).toInt64 0 7) (by decide) ⟨by omega, by omega⟩ (Nat.le_of_ble_eq_true rfl) (mm_vs_b (b := 77) rfl (hp_len dy)) (fun v h' hqq => ?_)
        obtain ⟨rfl, hqe⟩ := hqq; rw [hqe]
        rw [in_8 (nI 2), hx]
        refine mm_I ok_Mo_told 5 0 9 [some (.ref 52), some (.int o), some (.int (nI 2))] [.int (iz_ (some 2))] (hp_SH ++ dy, g, r) [] rfl trivial rfl rfl (fun q => False.elim (one0 q)) (fun _ => ?_)
        refine mm_I ok_Mo_told 6 2 14 [some (.ref 52), some (.int o), some (.int (nI 2))] [.int 5, .int (nI 2)] (hp_SH ++ dy, g, r) [] rfl trivial rfl rfl (fun q => False.elim (absurd q (by decide))) (fun _ => ?_)
        refine mm_B ok_Mo_told 9 2 (19, [some (.ref 52), some (.int o), some (.int (nI 2))], [.int o, .ref 52], (hp_SH ++ dy, g, r)) [] rfl trivial ?_
        refine mm_cV (as := [.int o]) (st := []) (q := 52) cw_Mo_isLesson lk_Mo_117 in_Mo_isLesson sl_Mo_isLesson rfl rfl (mm_at ok_Mo_told (i := 11) rfl).1 (ct_Mo_isLesson dy g r o) (by decide) ⟨by omega, by omega⟩ (Nat.le_of_ble_eq_true rfl) (mm_vs_b (b := 77) rfl (hp_len dy)) (fun v h' hqq => ?_)
        obtain ⟨rfl, hqe⟩ := hqq; rw [hqe]
        rw [ml_x (by omega) e10 o, hy]
        refine mm_I ok_Mo_told 12 0 22 [some (.ref 52), some (.int o), some (.int (nI 2))] [.int (iz_ none)] (hp_SH ++ dy, g, r) [] rfl trivial rfl rfl (fun _ => ?_) (fun q => False.elim (q rfl))
        refine mm_B ok_Mo_told 18 1 (38, [some (.ref 52), some (.int o), some (.int (nI 2))], [.int (-2)], (hp_SH ++ dy, g, r)) [] rfl trivial ?_
        exact mm_ri rfl (mm_at ok_Mo_told (i := 19) rfl).1 ⟨Nat.le_refl _, Nat.le_refl _⟩ (RM_q rfl hI fr_.rf)
      | some l =>
        obtain ⟨hl, rfl⟩ := ix_some (by omega) hy
        obtain ⟨e3, e4, e5, k6, k9, k16⟩ := tm_f hL hl
        rw [show an_told A (nI l) (nI 2) = nI (A.1.2.2.2 l) by unfold an_told; rw [hx]; show (match ix_ A.1.1 (nI l) with | none => _ | some l => _) = _; rw [hy]; rfl]
        refine mm_B ok_Mo_told 0 4 (6, [some (.ref 52), some (.int (nI l)), some (.int (nI 2))], [.long 7, .long 0, .long ((nI 2)).toInt64], (hp_SH ++ dy, g, r)) [] rfl trivial ?_
        refine mm_cS (as := [.long ((nI 2)).toInt64, .long 0, .long 7]) (st := []) cw_Mo_in lk_Mo_100 sx_Mo_in (mm_at ok_Mo_told (i := 4) rfl).1 (ct_Mo_in (hp_SH ++ dy, g, r) (nI 2).toInt64 0 7) (by decide) ⟨by omega, by omega⟩ (Nat.le_of_ble_eq_true rfl) (mm_vs_b (b := 77) rfl (hp_len dy)) (fun v h' hqq => ?_)
        obtain ⟨rfl, hqe⟩ := hqq; rw [hqe]
        rw [in_8 (nI 2), hx]
        refine mm_I ok_Mo_told 5 0 9 [some (.ref 52), some (.int (nI l)), some (.int (nI 2))] [.int (iz_ (some 2))] (hp_SH ++ dy, g, r) [] rfl trivial rfl rfl (fun q => False.elim (one0 q)) (fun _ => ?_)
        refine mm_I ok_Mo_told 6 2 14 [some (.ref 52), some (.int (nI l)), some (.int (nI 2))] [.int 5, .int (nI 2)] (hp_SH ++ dy, g, r) [] rfl trivial rfl rfl (fun q => False.elim (absurd q (by decide))) (fun _ => ?_)
        refine mm_B ok_Mo_told 9 2 (19, [some (.ref 52), some (.int (nI l)), some (.int (nI 2))], [.int (nI l), .ref 52], (hp_SH ++ dy, g, r)) [] rfl trivial ?_
        refine mm_cV (as := [.int (nI l)]) (st := []) (q := 52) cw_Mo_isLesson lk_Mo_117 in_Mo_isLesson sl_Mo_isLesson rfl rfl (mm_at ok_Mo_told (i := 11) rfl).1 (ct_Mo_isLesson dy g r (nI l)) (by decide) ⟨by omega, by omega⟩ (Nat.le_of_ble_eq_true rfl) (mm_vs_b (b := 77) rfl (hp_len dy)) (fun v h' hqq => ?_)
        obtain ⟨rfl, hqe⟩ := hqq; rw [hqe]
        rw [ml_x (by omega) e10 (nI l), hy]
        refine mm_I ok_Mo_told 12 0 22 [some (.ref 52), some (.int (nI l)), some (.int (nI 2))] [.int (iz_ (some l))] (hp_SH ++ dy, g, r) [] rfl trivial rfl rfl (fun q => False.elim (one0 q)) (fun _ => ?_)
        refine mm_B ok_Mo_told 13 1 (39, [some (.ref 52), some (.int (nI l)), some (.int (nI 2))], [], (hp_SH ++ dy, g, r)) [] rfl trivial ?_
        refine mm_I ok_Mo_told 20 2 41 [some (.ref 52), some (.int (nI l)), some (.int (nI 2))] [.int 3, .int (nI 2)] (hp_SH ++ dy, g, r) [] rfl trivial rfl rfl (fun q => False.elim (absurd q (by decide))) (fun _ => ?_)
        refine mm_I ok_Mo_told 23 1 45 [some (.ref 52), some (.int (nI l)), some (.int (nI 2))] [.int (nI 2)] (hp_SH ++ dy, g, r) [] rfl trivial rfl rfl (fun _ => ?_) (fun q => False.elim (absurd q (by decide)))
        refine mm_I ok_Mo_told 30 2 59 [some (.ref 52), some (.int (nI l)), some (.int (nI 2))] [.int 1, .int (nI 2)] (hp_SH ++ dy, g, r) [] rfl trivial rfl rfl (fun _ => ?_) (fun q => False.elim (absurd q (by decide)))
        refine mm_B ok_Mo_told 38 4 (77, [some (.ref 52), some (.int (nI l)), some (.int (nI 2))], [.int (g 58 ((nI l).toNatClampNeg))], (hp_SH ++ dy, g, r)) [vp_in (nI l) 4] rfl (show vp_in (nI l) 4 from (nI_vi (by omega) (by decide))) ?_
        rw [e5]
        exact mm_ri rfl (mm_at ok_Mo_told (i := 42) rfl).1 ⟨Nat.le_refl _, Nat.le_refl _⟩ (RM_q rfl hI fr_.rf)
    · cases hy : ix_ A.1.1 o with
      | none =>
        rw [show an_told A o (nI 3) = -2 by unfold an_told; rw [hx]; show (match ix_ A.1.1 o with | none => _ | some l => _) = _; rw [hy]]
        refine mm_B ok_Mo_told 0 4 (6, [some (.ref 52), some (.int o), some (.int (nI 3))], [.long 7, .long 0, .long ((nI 3)).toInt64], (hp_SH ++ dy, g, r)) [] rfl trivial ?_
        refine mm_cS (as := [.long ((nI 3)).toInt64, .long 0, .long 7]) (st := []) cw_Mo_in lk_Mo_100 sx_Mo_in (mm_at ok_Mo_told (i := 4) rfl).1 (ct_Mo_in (hp_SH ++ dy, g, r) (nI 3).toInt64 0 7) (by decide) ⟨by omega, by omega⟩ (Nat.le_of_ble_eq_true rfl) (mm_vs_b (b := 77) rfl (hp_len dy)) (fun v h' hqq => ?_)
        obtain ⟨rfl, hqe⟩ := hqq; rw [hqe]
        rw [in_8 (nI 3), hx]
        refine mm_I ok_Mo_told 5 0 9 [some (.ref 52), some (.int o), some (.int (nI 3))] [.int (iz_ (some 3))] (hp_SH ++ dy, g, r) [] rfl trivial rfl rfl (fun q => False.elim (one0 q)) (fun _ => ?_)
        refine mm_I ok_Mo_told 6 2 14 [some (.ref 52), some (.int o), some (.int (nI 3))] [.int 5, .int (nI 3)] (hp_SH ++ dy, g, r) [] rfl trivial rfl rfl (fun q => False.elim (absurd q (by decide))) (fun _ => ?_)
        refine mm_B ok_Mo_told 9 2 (19, [some (.ref 52), some (.int o), some (.int (nI 3))], [.int o, .ref 52], (hp_SH ++ dy, g, r)) [] rfl trivial ?_
        refine mm_cV (as := [.int o]) (st := []) (q := 52) cw_Mo_isLesson lk_Mo_117 in_Mo_isLesson sl_Mo_isLesson rfl rfl (mm_at ok_Mo_told (i := 11) rfl).1 (ct_Mo_isLesson dy g r o) (by decide) ⟨by omega, by omega⟩ (Nat.le_of_ble_eq_true rfl) (mm_vs_b (b := 77) rfl (hp_len dy)) (fun v h' hqq => ?_)
        obtain ⟨rfl, hqe⟩ := hqq; rw [hqe]
        rw [ml_x (by omega) e10 o, hy]
        refine mm_I ok_Mo_told 12 0 22 [some (.ref 52), some (.int o), some (.int (nI 3))] [.int (iz_ none)] (hp_SH ++ dy, g, r) [] rfl trivial rfl rfl (fun _ => ?_) (fun q => False.elim (q rfl))
        refine mm_B ok_Mo_told 18 1 (38, [some (.ref 52), some (.int o), some (.int (nI 3))], [.int (-2)], (hp_SH ++ dy, g, r)) [] rfl trivial ?_
        exact mm_ri rfl (mm_at ok_Mo_told (i := 19) rfl).1 ⟨Nat.le_refl _, Nat.le_refl _⟩ (RM_q rfl hI fr_.rf)
      | some l =>
        obtain ⟨hl, rfl⟩ := ix_some (by omega) hy
        obtain ⟨e3, e4, e5, k6, k9, k16⟩ := tm_f hL hl
        rw [show an_told A (nI l) (nI 3) = nI (sp_tm (A.1.2.1 l) (A.1.2.2.1 l)) by unfold an_told; rw [hx]; show (match ix_ A.1.1 (nI l) with | none => _ | some l => _) = _; rw [hy]; rfl]
        refine mm_B ok_Mo_told 0 4 (6, [some (.ref 52), some (.int (nI l)), some (.int (nI 3))], [.long 7, .long 0, .long ((nI 3)).toInt64], (hp_SH ++ dy, g, r)) [] rfl trivial ?_
        refine mm_cS (as := [.long ((nI 3)).toInt64, .long 0, .long 7]) (st := []) cw_Mo_in lk_Mo_100 sx_Mo_in (mm_at ok_Mo_told (i := 4) rfl).1 (ct_Mo_in (hp_SH ++ dy, g, r) (nI 3).toInt64 0 7) (by decide) ⟨by omega, by omega⟩ (Nat.le_of_ble_eq_true rfl) (mm_vs_b (b := 77) rfl (hp_len dy)) (fun v h' hqq => ?_)
        obtain ⟨rfl, hqe⟩ := hqq; rw [hqe]
        rw [in_8 (nI 3), hx]
        refine mm_I ok_Mo_told 5 0 9 [some (.ref 52), some (.int (nI l)), some (.int (nI 3))] [.int (iz_ (some 3))] (hp_SH ++ dy, g, r) [] rfl trivial rfl rfl (fun q => False.elim (one0 q)) (fun _ => ?_)
        refine mm_I ok_Mo_told 6 2 14 [some (.ref 52), some (.int (nI l)), some (.int (nI 3))] [.int 5, .int (nI 3)] (hp_SH ++ dy, g, r) [] rfl trivial rfl rfl (fun q => False.elim (absurd q (by decide))) (fun _ => ?_)
        refine mm_B ok_Mo_told 9 2 (19, [some (.ref 52), some (.int (nI l)), some (.int (nI 3))], [.int (nI l), .ref 52], (hp_SH ++ dy, g, r)) [] rfl trivial ?_
        refine mm_cV (as := [.int (nI l)]) (st := []) (q := 52) cw_Mo_isLesson lk_Mo_117 in_Mo_isLesson sl_Mo_isLesson rfl rfl (mm_at ok_Mo_told (i := 11) rfl).1 (ct_Mo_isLesson dy g r (nI l)) (by decide) ⟨by omega, by omega⟩ (Nat.le_of_ble_eq_true rfl) (mm_vs_b (b := 77) rfl (hp_len dy)) (fun v h' hqq => ?_)
        obtain ⟨rfl, hqe⟩ := hqq; rw [hqe]
        rw [ml_x (by omega) e10 (nI l), hy]
        refine mm_I ok_Mo_told 12 0 22 [some (.ref 52), some (.int (nI l)), some (.int (nI 3))] [.int (iz_ (some l))] (hp_SH ++ dy, g, r) [] rfl trivial rfl rfl (fun q => False.elim (one0 q)) (fun _ => ?_)
        refine mm_B ok_Mo_told 13 1 (39, [some (.ref 52), some (.int (nI l)), some (.int (nI 3))], [], (hp_SH ++ dy, g, r)) [] rfl trivial ?_
        refine mm_I ok_Mo_told 20 2 41 [some (.ref 52), some (.int (nI l)), some (.int (nI 3))] [.int 3, .int (nI 3)] (hp_SH ++ dy, g, r) [] rfl trivial rfl rfl (fun _ => ?_) (fun q => False.elim (absurd q (by decide)))
        refine mm_I ok_Mo_told 43 2 80 [some (.ref 52), some (.int (nI l)), some (.int (nI 3))] [.int 5, .int (nI 3)] (hp_SH ++ dy, g, r) [] rfl trivial rfl rfl (fun q => False.elim (absurd q (by decide))) (fun _ => ?_)
        refine mm_I ok_Mo_told 46 2 85 [some (.ref 52), some (.int (nI l)), some (.int (nI 3))] [.int 3, .int (nI 3)] (hp_SH ++ dy, g, r) [] rfl trivial rfl rfl (fun q => False.elim (absurd q (by decide))) (fun _ => ?_)
        refine mm_B ok_Mo_told 49 2 (90, [some (.ref 52), some (.int (nI l)), some (.int (nI 3))], [.int (nI l), .ref 52], (hp_SH ++ dy, g, r)) [] rfl trivial ?_
        refine mm_cV (as := [.int (nI l)]) (st := []) (q := 52) cw_Mo_times lk_Mo_126 in_Mo_times sl_Mo_times rfl rfl (mm_at ok_Mo_told (i := 51) rfl).1 (ct_Mo_times dy g r (nI l) (nI_vi (by omega) (by decide))) (by decide) ⟨by omega, by omega⟩ (Nat.le_of_ble_eq_true rfl) (mm_vs_b (b := 77) rfl (hp_len dy)) (fun v h' hqq => ?_)
        obtain ⟨rfl, hqe⟩ := hqq; rw [hqe, me_tm (g := g) rfl hL hl]
        refine mm_B ok_Mo_told 52 1 (101, [some (.ref 52), some (.int (nI l)), some (.int (nI 3))], [.int (nI (sp_tm (A.1.2.1 l) (A.1.2.2.1 l)))], (hp_SH ++ dy, g, r)) [] rfl trivial ?_
        exact mm_ri rfl (mm_at ok_Mo_told (i := 56) rfl).1 ⟨Nat.le_refl _, Nat.le_refl _⟩ (RM_q rfl hI fr_.rf)
    · cases hy : ix_ A.1.1 o with
      | none =>
        rw [show an_told A o (nI 4) = -2 by unfold an_told; rw [hx]; show (match ix_ A.1.1 o with | none => _ | some l => _) = _; rw [hy]]
        refine mm_B ok_Mo_told 0 4 (6, [some (.ref 52), some (.int o), some (.int (nI 4))], [.long 7, .long 0, .long ((nI 4)).toInt64], (hp_SH ++ dy, g, r)) [] rfl trivial ?_
        refine mm_cS (as := [.long ((nI 4)).toInt64, .long 0, .long 7]) (st := []) cw_Mo_in lk_Mo_100 sx_Mo_in (mm_at ok_Mo_told (i := 4) rfl).1 (ct_Mo_in (hp_SH ++ dy, g, r) (nI 4).toInt64 0 7) (by decide) ⟨by omega, by omega⟩ (Nat.le_of_ble_eq_true rfl) (mm_vs_b (b := 77) rfl (hp_len dy)) (fun v h' hqq => ?_)
        obtain ⟨rfl, hqe⟩ := hqq; rw [hqe]
        rw [in_8 (nI 4), hx]
        refine mm_I ok_Mo_told 5 0 9 [some (.ref 52), some (.int o), some (.int (nI 4))] [.int (iz_ (some 4))] (hp_SH ++ dy, g, r) [] rfl trivial rfl rfl (fun q => False.elim (one0 q)) (fun _ => ?_)
        refine mm_I ok_Mo_told 6 2 14 [some (.ref 52), some (.int o), some (.int (nI 4))] [.int 5, .int (nI 4)] (hp_SH ++ dy, g, r) [] rfl trivial rfl rfl (fun q => False.elim (absurd q (by decide))) (fun _ => ?_)
        refine mm_B ok_Mo_told 9 2 (19, [some (.ref 52), some (.int o), some (.int (nI 4))], [.int o, .ref 52], (hp_SH ++ dy, g, r)) [] rfl trivial ?_
        refine mm_cV (as := [.int o]) (st := []) (q := 52) cw_Mo_isLesson lk_Mo_117 in_Mo_isLesson sl_Mo_isLesson rfl rfl (mm_at ok_Mo_told (i := 11) rfl).1 (ct_Mo_isLesson dy g r o) (by decide) ⟨by omega, by omega⟩ (Nat.le_of_ble_eq_true rfl) (mm_vs_b (b := 77) rfl (hp_len dy)) (fun v h' hqq => ?_)
        obtain ⟨rfl, hqe⟩ := hqq; rw [hqe]
        rw [ml_x (by omega) e10 o, hy]
        refine mm_I ok_Mo_told 12 0 22 [some (.ref 52), some (.int o), some (.int (nI 4))] [.int (iz_ none)] (hp_SH ++ dy, g, r) [] rfl trivial rfl rfl (fun _ => ?_) (fun q => False.elim (q rfl))
        refine mm_B ok_Mo_told 18 1 (38, [some (.ref 52), some (.int o), some (.int (nI 4))], [.int (-2)], (hp_SH ++ dy, g, r)) [] rfl trivial ?_
        exact mm_ri rfl (mm_at ok_Mo_told (i := 19) rfl).1 ⟨Nat.le_refl _, Nat.le_refl _⟩ (RM_q rfl hI fr_.rf)
      | some l =>
        obtain ⟨hl, rfl⟩ := ix_some (by omega) hy
        obtain ⟨e3, e4, e5, k6, k9, k16⟩ := tm_f hL hl
        rw [show an_told A (nI l) (nI 4) = nI (sp_vl (A.1.2.1 l) (A.1.2.2.1 l)) by unfold an_told; rw [hx]; show (match ix_ A.1.1 (nI l) with | none => _ | some l => _) = _; rw [hy]; rfl]
        refine mm_B ok_Mo_told 0 4 (6, [some (.ref 52), some (.int (nI l)), some (.int (nI 4))], [.long 7, .long 0, .long ((nI 4)).toInt64], (hp_SH ++ dy, g, r)) [] rfl trivial ?_
        refine mm_cS (as := [.long ((nI 4)).toInt64, .long 0, .long 7]) (st := []) cw_Mo_in lk_Mo_100 sx_Mo_in (mm_at ok_Mo_told (i := 4) rfl).1 (ct_Mo_in (hp_SH ++ dy, g, r) (nI 4).toInt64 0 7) (by decide) ⟨by omega, by omega⟩ (Nat.le_of_ble_eq_true rfl) (mm_vs_b (b := 77) rfl (hp_len dy)) (fun v h' hqq => ?_)
        obtain ⟨rfl, hqe⟩ := hqq; rw [hqe]
        rw [in_8 (nI 4), hx]
        refine mm_I ok_Mo_told 5 0 9 [some (.ref 52), some (.int (nI l)), some (.int (nI 4))] [.int (iz_ (some 4))] (hp_SH ++ dy, g, r) [] rfl trivial rfl rfl (fun q => False.elim (one0 q)) (fun _ => ?_)
        refine mm_I ok_Mo_told 6 2 14 [some (.ref 52), some (.int (nI l)), some (.int (nI 4))] [.int 5, .int (nI 4)] (hp_SH ++ dy, g, r) [] rfl trivial rfl rfl (fun q => False.elim (absurd q (by decide))) (fun _ => ?_)
        refine mm_B ok_Mo_told 9 2 (19, [some (.ref 52), some (.int (nI l)), some (.int (nI 4))], [.int (nI l), .ref 52], (hp_SH ++ dy, g, r)) [] rfl trivial ?_
        refine mm_cV (as := [.int (nI l)]) (st := []) (q := 52) cw_Mo_isLesson lk_Mo_117 in_Mo_isLesson sl_Mo_isLesson rfl rfl (mm_at ok_Mo_told (i := 11) rfl).1 (ct_Mo_isLesson dy g r (nI l)) (by decide) ⟨by omega, by omega⟩ (Nat.le_of_ble_eq_true rfl) (mm_vs_b (b := 77) rfl (hp_len dy)) (fun v h' hqq => ?_)
        obtain ⟨rfl, hqe⟩ := hqq; rw [hqe]
        rw [ml_x (by omega) e10 (nI l), hy]
        refine mm_I ok_Mo_told 12 0 22 [some (.ref 52), some (.int (nI l)), some (.int (nI 4))] [.int (iz_ (some l))] (hp_SH ++ dy, g, r) [] rfl trivial rfl rfl (fun q => False.elim (one0 q)) (fun _ => ?_)
        refine mm_B ok_Mo_told 13 1 (39, [some (.ref 52), some (.int (nI l)), some (.int (nI 4))], [], (hp_SH ++ dy, g, r)) [] rfl trivial ?_
        refine mm_I ok_Mo_told 20 2 41 [some (.ref 52), some (.int (nI l)), some (.int (nI 4))] [.int 3, .int (nI 4)] (hp_SH ++ dy, g, r) [] rfl trivial rfl rfl (fun _ => ?_) (fun q => False.elim (absurd q (by decide)))
        refine mm_I ok_Mo_told 43 2 80 [some (.ref 52), some (.int (nI l)), some (.int (nI 4))] [.int 5, .int (nI 4)] (hp_SH ++ dy, g, r) [] rfl trivial rfl rfl (fun q => False.elim (absurd q (by decide))) (fun _ => ?_)
        refine mm_I ok_Mo_told 46 2 85 [some (.ref 52), some (.int (nI l)), some (.int (nI 4))] [.int 3, .int (nI 4)] (hp_SH ++ dy, g, r) [] rfl trivial rfl rfl (fun _ => ?_) (fun q => False.elim (absurd q (by decide)))
        refine mm_B ok_Mo_told 53 2 (98, [some (.ref 52), some (.int (nI l)), some (.int (nI 4))], [.int (nI l), .ref 52], (hp_SH ++ dy, g, r)) [] rfl trivial ?_
        refine mm_cV (as := [.int (nI l)]) (st := []) (q := 52) cw_Mo_pointsOf lk_Mo_130 in_Mo_pointsOf sl_Mo_pointsOf rfl rfl (mm_at ok_Mo_told (i := 55) rfl).1 (ct_Mo_pointsOf dy g r (nI l) (nI_vi (by omega) (by decide))) (by decide) ⟨by omega, by omega⟩ (Nat.le_of_ble_eq_true rfl) (mm_vs_b (b := 77) rfl (hp_len dy)) (fun v h' hqq => ?_)
        obtain ⟨rfl, hqe⟩ := hqq; rw [hqe, me_vl (g := g) rfl hL hl]
        exact mm_ri rfl (mm_at ok_Mo_told (i := 56) rfl).1 ⟨Nat.le_refl _, Nat.le_refl _⟩ (RM_q rfl hI fr_.rf)
    · cases hy : ix_ A.2.1.1 o with
      | none =>
        rw [show an_told A o (nI 5) = -2 by unfold an_told; rw [hx]; show (match ix_ A.2.1.1 o with | none => _ | some l => _) = _; rw [hy]]
        refine mm_B ok_Mo_told 0 4 (6, [some (.ref 52), some (.int o), some (.int (nI 5))], [.long 7, .long 0, .long ((nI 5)).toInt64], (hp_SH ++ dy, g, r)) [] rfl trivial ?_
        refine mm_cS (as := [.long ((nI 5)).toInt64, .long 0, .long 7]) (st := []) cw_Mo_in lk_Mo_100 sx_Mo_in (mm_at ok_Mo_told (i := 4) rfl).1 (ct_Mo_in (hp_SH ++ dy, g, r) (nI 5).toInt64 0 7) (by decide) ⟨by omega, by omega⟩ (Nat.le_of_ble_eq_true rfl) (mm_vs_b (b := 77) rfl (hp_len dy)) (fun v h' hqq => ?_)
        obtain ⟨rfl, hqe⟩ := hqq; rw [hqe]
        rw [in_8 (nI 5), hx]
        refine mm_I ok_Mo_told 5 0 9 [some (.ref 52), some (.int o), some (.int (nI 5))] [.int (iz_ (some 5))] (hp_SH ++ dy, g, r) [] rfl trivial rfl rfl (fun q => False.elim (one0 q)) (fun _ => ?_)
        refine mm_I ok_Mo_told 6 2 14 [some (.ref 52), some (.int o), some (.int (nI 5))] [.int 5, .int (nI 5)] (hp_SH ++ dy, g, r) [] rfl trivial rfl rfl (fun _ => ?_) (fun q => False.elim (absurd q (by decide)))
        refine mm_B ok_Mo_told 14 2 (30, [some (.ref 52), some (.int o), some (.int (nI 5))], [.int o, .ref 52], (hp_SH ++ dy, g, r)) [] rfl trivial ?_
        refine mm_cV (as := [.int o]) (st := []) (q := 52) cw_Mo_isChild lk_Mo_121 in_Mo_isChild sl_Mo_isChild rfl rfl (mm_at ok_Mo_told (i := 16) rfl).1 (ct_Mo_isChild dy g r o) (by decide) ⟨by omega, by omega⟩ (Nat.le_of_ble_eq_true rfl) (mm_vs_b (b := 77) rfl (hp_len dy)) (fun v h' hqq => ?_)
        obtain ⟨rfl, hqe⟩ := hqq; rw [hqe]
        rw [mc_x (by omega) e14 o, hy]
        refine mm_I ok_Mo_told 17 0 33 [some (.ref 52), some (.int o), some (.int (nI 5))] [.int (iz_ none)] (hp_SH ++ dy, g, r) [] rfl trivial rfl rfl (fun q => False.elim (q rfl)) (fun _ => ?_)
        refine mm_B ok_Mo_told 18 1 (38, [some (.ref 52), some (.int o), some (.int (nI 5))], [.int (-2)], (hp_SH ++ dy, g, r)) [] rfl trivial ?_
        exact mm_ri rfl (mm_at ok_Mo_told (i := 19) rfl).1 ⟨Nat.le_refl _, Nat.le_refl _⟩ (RM_q rfl hI fr_.rf)
      | some l =>
        obtain ⟨hl, rfl⟩ := ix_some (by omega) hy
        obtain ⟨e6, e7, e8⟩ := tn_f hK hl
        rw [show an_told A (nI l) (nI 5) = nI (A.2.1.2.1 l) by unfold an_told; rw [hx]; show (match ix_ A.2.1.1 (nI l) with | none => _ | some l => _) = _; rw [hy]; rfl]
        refine mm_B ok_Mo_told 0 4 (6, [some (.ref 52), some (.int (nI l)), some (.int (nI 5))], [.long 7, .long 0, .long ((nI 5)).toInt64], (hp_SH ++ dy, g, r)) [] rfl trivial ?_
        refine mm_cS (as := [.long ((nI 5)).toInt64, .long 0, .long 7]) (st := []) cw_Mo_in lk_Mo_100 sx_Mo_in (mm_at ok_Mo_told (i := 4) rfl).1 (ct_Mo_in (hp_SH ++ dy, g, r) (nI 5).toInt64 0 7) (by decide) ⟨by omega, by omega⟩ (Nat.le_of_ble_eq_true rfl) (mm_vs_b (b := 77) rfl (hp_len dy)) (fun v h' hqq => ?_)
        obtain ⟨rfl, hqe⟩ := hqq; rw [hqe]
        rw [in_8 (nI 5), hx]
        refine mm_I ok_Mo_told 5 0 9 [some (.ref 52), some (.int (nI l)), some (.int (nI 5))] [.int (iz_ (some 5))] (hp_SH ++ dy, g, r) [] rfl trivial rfl rfl (fun q => False.elim (one0 q)) (fun _ => ?_)
        refine mm_I ok_Mo_told 6 2 14 [some (.ref 52), some (.int (nI l)), some (.int (nI 5))] [.int 5, .int (nI 5)] (hp_SH ++ dy, g, r) [] rfl trivial rfl rfl (fun _ => ?_) (fun q => False.elim (absurd q (by decide)))
        refine mm_B ok_Mo_told 14 2 (30, [some (.ref 52), some (.int (nI l)), some (.int (nI 5))], [.int (nI l), .ref 52], (hp_SH ++ dy, g, r)) [] rfl trivial ?_
        refine mm_cV (as := [.int (nI l)]) (st := []) (q := 52) cw_Mo_isChild lk_Mo_121 in_Mo_isChild sl_Mo_isChild rfl rfl (mm_at ok_Mo_told (i := 16) rfl).1 (ct_Mo_isChild dy g r (nI l)) (by decide) ⟨by omega, by omega⟩ (Nat.le_of_ble_eq_true rfl) (mm_vs_b (b := 77) rfl (hp_len dy)) (fun v h' hqq => ?_)
        obtain ⟨rfl, hqe⟩ := hqq; rw [hqe]
        rw [mc_x (by omega) e14 (nI l), hy]
        refine mm_I ok_Mo_told 17 0 33 [some (.ref 52), some (.int (nI l)), some (.int (nI 5))] [.int (iz_ (some l))] (hp_SH ++ dy, g, r) [] rfl trivial rfl rfl (fun _ => ?_) (fun q => False.elim (one0 q))
        refine mm_I ok_Mo_told 20 2 41 [some (.ref 52), some (.int (nI l)), some (.int (nI 5))] [.int 3, .int (nI 5)] (hp_SH ++ dy, g, r) [] rfl trivial rfl rfl (fun _ => ?_) (fun q => False.elim (absurd q (by decide)))
        refine mm_I ok_Mo_told 43 2 80 [some (.ref 52), some (.int (nI l)), some (.int (nI 5))] [.int 5, .int (nI 5)] (hp_SH ++ dy, g, r) [] rfl trivial rfl rfl (fun _ => ?_) (fun q => False.elim (absurd q (by decide)))
        refine mm_I ok_Mo_told 57 2 104 [some (.ref 52), some (.int (nI l)), some (.int (nI 5))] [.int 5, .int (nI 5)] (hp_SH ++ dy, g, r) [] rfl trivial rfl rfl (fun q => False.elim (absurd q (by decide))) (fun _ => ?_)
        refine mm_B ok_Mo_told 60 5 (137, [some (.ref 52), some (.int (nI l)), some (.int (nI 5))], [.int (g 59 ((nI l).toNatClampNeg))], (hp_SH ++ dy, g, r)) [vp_in (nI l) 6] rfl (show vp_in (nI l) 6 from (nI_vi (by omega) (by decide))) ?_
        rw [e6]
        exact mm_ri rfl (mm_at ok_Mo_told (i := 77) rfl).1 ⟨Nat.le_refl _, Nat.le_refl _⟩ (RM_q rfl hI fr_.rf)
    · cases hy : ix_ A.2.1.1 o with
      | none =>
        rw [show an_told A o (nI 6) = -2 by unfold an_told; rw [hx]; show (match ix_ A.2.1.1 o with | none => _ | some l => _) = _; rw [hy]]
        refine mm_B ok_Mo_told 0 4 (6, [some (.ref 52), some (.int o), some (.int (nI 6))], [.long 7, .long 0, .long ((nI 6)).toInt64], (hp_SH ++ dy, g, r)) [] rfl trivial ?_
        refine mm_cS (as := [.long ((nI 6)).toInt64, .long 0, .long 7]) (st := []) cw_Mo_in lk_Mo_100 sx_Mo_in (mm_at ok_Mo_told (i := 4) rfl).1 (ct_Mo_in (hp_SH ++ dy, g, r) (nI 6).toInt64 0 7) (by decide) ⟨by omega, by omega⟩ (Nat.le_of_ble_eq_true rfl) (mm_vs_b (b := 77) rfl (hp_len dy)) (fun v h' hqq => ?_)
        obtain ⟨rfl, hqe⟩ := hqq; rw [hqe]
        rw [in_8 (nI 6), hx]
        refine mm_I ok_Mo_told 5 0 9 [some (.ref 52), some (.int o), some (.int (nI 6))] [.int (iz_ (some 6))] (hp_SH ++ dy, g, r) [] rfl trivial rfl rfl (fun q => False.elim (one0 q)) (fun _ => ?_)
        refine mm_I ok_Mo_told 6 2 14 [some (.ref 52), some (.int o), some (.int (nI 6))] [.int 5, .int (nI 6)] (hp_SH ++ dy, g, r) [] rfl trivial rfl rfl (fun _ => ?_) (fun q => False.elim (absurd q (by decide)))
        refine mm_B ok_Mo_told 14 2 (30, [some (.ref 52), some (.int o), some (.int (nI 6))], [.int o, .ref 52], (hp_SH ++ dy, g, r)) [] rfl trivial ?_
        refine mm_cV (as := [.int o]) (st := []) (q := 52) cw_Mo_isChild lk_Mo_121 in_Mo_isChild sl_Mo_isChild rfl rfl (mm_at ok_Mo_told (i := 16) rfl).1 (ct_Mo_isChild dy g r o) (by decide) ⟨by omega, by omega⟩ (Nat.le_of_ble_eq_true rfl) (mm_vs_b (b := 77) rfl (hp_len dy)) (fun v h' hqq => ?_)
        obtain ⟨rfl, hqe⟩ := hqq; rw [hqe]
        rw [mc_x (by omega) e14 o, hy]
        refine mm_I ok_Mo_told 17 0 33 [some (.ref 52), some (.int o), some (.int (nI 6))] [.int (iz_ none)] (hp_SH ++ dy, g, r) [] rfl trivial rfl rfl (fun q => False.elim (q rfl)) (fun _ => ?_)
        refine mm_B ok_Mo_told 18 1 (38, [some (.ref 52), some (.int o), some (.int (nI 6))], [.int (-2)], (hp_SH ++ dy, g, r)) [] rfl trivial ?_
        exact mm_ri rfl (mm_at ok_Mo_told (i := 19) rfl).1 ⟨Nat.le_refl _, Nat.le_refl _⟩ (RM_q rfl hI fr_.rf)
      | some l =>
        obtain ⟨hl, rfl⟩ := ix_some (by omega) hy
        obtain ⟨e6, e7, e8⟩ := tn_f hK hl
        rw [show an_told A (nI l) (nI 6) = nI (A.2.1.2.2.1 l) by unfold an_told; rw [hx]; show (match ix_ A.2.1.1 (nI l) with | none => _ | some l => _) = _; rw [hy]; rfl]
        refine mm_B ok_Mo_told 0 4 (6, [some (.ref 52), some (.int (nI l)), some (.int (nI 6))], [.long 7, .long 0, .long ((nI 6)).toInt64], (hp_SH ++ dy, g, r)) [] rfl trivial ?_
        refine mm_cS (as := [.long ((nI 6)).toInt64, .long 0, .long 7]) (st := []) cw_Mo_in lk_Mo_100 sx_Mo_in (mm_at ok_Mo_told (i := 4) rfl).1 (ct_Mo_in (hp_SH ++ dy, g, r) (nI 6).toInt64 0 7) (by decide) ⟨by omega, by omega⟩ (Nat.le_of_ble_eq_true rfl) (mm_vs_b (b := 77) rfl (hp_len dy)) (fun v h' hqq => ?_)
        obtain ⟨rfl, hqe⟩ := hqq; rw [hqe]
        rw [in_8 (nI 6), hx]
        refine mm_I ok_Mo_told 5 0 9 [some (.ref 52), some (.int (nI l)), some (.int (nI 6))] [.int (iz_ (some 6))] (hp_SH ++ dy, g, r) [] rfl trivial rfl rfl (fun q => False.elim (one0 q)) (fun _ => ?_)
        refine mm_I ok_Mo_told 6 2 14 [some (.ref 52), some (.int (nI l)), some (.int (nI 6))] [.int 5, .int (nI 6)] (hp_SH ++ dy, g, r) [] rfl trivial rfl rfl (fun _ => ?_) (fun q => False.elim (absurd q (by decide)))
        refine mm_B ok_Mo_told 14 2 (30, [some (.ref 52), some (.int (nI l)), some (.int (nI 6))], [.int (nI l), .ref 52], (hp_SH ++ dy, g, r)) [] rfl trivial ?_
        refine mm_cV (as := [.int (nI l)]) (st := []) (q := 52) cw_Mo_isChild lk_Mo_121 in_Mo_isChild sl_Mo_isChild rfl rfl (mm_at ok_Mo_told (i := 16) rfl).1 (ct_Mo_isChild dy g r (nI l)) (by decide) ⟨by omega, by omega⟩ (Nat.le_of_ble_eq_true rfl) (mm_vs_b (b := 77) rfl (hp_len dy)) (fun v h' hqq => ?_)
        obtain ⟨rfl, hqe⟩ := hqq; rw [hqe]
        rw [mc_x (by omega) e14 (nI l), hy]
        refine mm_I ok_Mo_told 17 0 33 [some (.ref 52), some (.int (nI l)), some (.int (nI 6))] [.int (iz_ (some l))] (hp_SH ++ dy, g, r) [] rfl trivial rfl rfl (fun _ => ?_) (fun q => False.elim (one0 q))
        refine mm_I ok_Mo_told 20 2 41 [some (.ref 52), some (.int (nI l)), some (.int (nI 6))] [.int 3, .int (nI 6)] (hp_SH ++ dy, g, r) [] rfl trivial rfl rfl (fun _ => ?_) (fun q => False.elim (absurd q (by decide)))
        refine mm_I ok_Mo_told 43 2 80 [some (.ref 52), some (.int (nI l)), some (.int (nI 6))] [.int 5, .int (nI 6)] (hp_SH ++ dy, g, r) [] rfl trivial rfl rfl (fun _ => ?_) (fun q => False.elim (absurd q (by decide)))
        refine mm_I ok_Mo_told 57 2 104 [some (.ref 52), some (.int (nI l)), some (.int (nI 6))] [.int 5, .int (nI 6)] (hp_SH ++ dy, g, r) [] rfl trivial rfl rfl (fun _ => ?_) (fun q => False.elim (absurd q (by decide)))
        refine mm_I ok_Mo_told 65 2 119 [some (.ref 52), some (.int (nI l)), some (.int (nI 6))] [.int 6, .int (nI 6)] (hp_SH ++ dy, g, r) [] rfl trivial rfl rfl (fun q => False.elim (absurd q (by decide))) (fun _ => ?_)
        refine mm_B ok_Mo_told 68 5 (137, [some (.ref 52), some (.int (nI l)), some (.int (nI 6))], [.int (g 60 ((nI l).toNatClampNeg))], (hp_SH ++ dy, g, r)) [vp_in (nI l) 6] rfl (show vp_in (nI l) 6 from (nI_vi (by omega) (by decide))) ?_
        rw [e7]
        exact mm_ri rfl (mm_at ok_Mo_told (i := 77) rfl).1 ⟨Nat.le_refl _, Nat.le_refl _⟩ (RM_q rfl hI fr_.rf)
    · cases hy : ix_ A.2.1.1 o with
      | none =>
        rw [show an_told A o (nI 7) = -2 by unfold an_told; rw [hx]; show (match ix_ A.2.1.1 o with | none => _ | some l => _) = _; rw [hy]]
        refine mm_B ok_Mo_told 0 4 (6, [some (.ref 52), some (.int o), some (.int (nI 7))], [.long 7, .long 0, .long ((nI 7)).toInt64], (hp_SH ++ dy, g, r)) [] rfl trivial ?_
        refine mm_cS (as := [.long ((nI 7)).toInt64, .long 0, .long 7]) (st := []) cw_Mo_in lk_Mo_100 sx_Mo_in (mm_at ok_Mo_told (i := 4) rfl).1 (ct_Mo_in (hp_SH ++ dy, g, r) (nI 7).toInt64 0 7) (by decide) ⟨by omega, by omega⟩ (Nat.le_of_ble_eq_true rfl) (mm_vs_b (b := 77) rfl (hp_len dy)) (fun v h' hqq => ?_)
        obtain ⟨rfl, hqe⟩ := hqq; rw [hqe]
        rw [in_8 (nI 7), hx]
        refine mm_I ok_Mo_told 5 0 9 [some (.ref 52), some (.int o), some (.int (nI 7))] [.int (iz_ (some 7))] (hp_SH ++ dy, g, r) [] rfl trivial rfl rfl (fun q => False.elim (one0 q)) (fun _ => ?_)
        refine mm_I ok_Mo_told 6 2 14 [some (.ref 52), some (.int o), some (.int (nI 7))] [.int 5, .int (nI 7)] (hp_SH ++ dy, g, r) [] rfl trivial rfl rfl (fun _ => ?_) (fun q => False.elim (absurd q (by decide)))
        refine mm_B ok_Mo_told 14 2 (30, [some (.ref 52), some (.int o), some (.int (nI 7))], [.int o, .ref 52], (hp_SH ++ dy, g, r)) [] rfl trivial ?_
        refine mm_cV (as := [.int o]) (st := []) (q := 52) cw_Mo_isChild lk_Mo_121 in_Mo_isChild sl_Mo_isChild rfl rfl (mm_at ok_Mo_told (i := 16) rfl).1 (ct_Mo_isChild dy g r o) (by decide) ⟨by omega, by omega⟩ (Nat.le_of_ble_eq_true rfl) (mm_vs_b (b := 77) rfl (hp_len dy)) (fun v h' hqq => ?_)
        obtain ⟨rfl, hqe⟩ := hqq; rw [hqe]
        rw [mc_x (by omega) e14 o, hy]
        refine mm_I ok_Mo_told 17 0 33 [some (.ref 52), some (.int o), some (.int (nI 7))] [.int (iz_ none)] (hp_SH ++ dy, g, r) [] rfl trivial rfl rfl (fun q => False.elim (q rfl)) (fun _ => ?_)
        refine mm_B ok_Mo_told 18 1 (38, [some (.ref 52), some (.int o), some (.int (nI 7))], [.int (-2)], (hp_SH ++ dy, g, r)) [] rfl trivial ?_
        exact mm_ri rfl (mm_at ok_Mo_told (i := 19) rfl).1 ⟨Nat.le_refl _, Nat.le_refl _⟩ (RM_q rfl hI fr_.rf)
      | some l =>
        obtain ⟨hl, rfl⟩ := ix_some (by omega) hy
        obtain ⟨e6, e7, e8⟩ := tn_f hK hl
        rw [show an_told A (nI l) (nI 7) = nI (A.2.1.2.2.2 l) by unfold an_told; rw [hx]; show (match ix_ A.2.1.1 (nI l) with | none => _ | some l => _) = _; rw [hy]; rfl]
        refine mm_B ok_Mo_told 0 4 (6, [some (.ref 52), some (.int (nI l)), some (.int (nI 7))], [.long 7, .long 0, .long ((nI 7)).toInt64], (hp_SH ++ dy, g, r)) [] rfl trivial ?_
        refine mm_cS (as := [.long ((nI 7)).toInt64, .long 0, .long 7]) (st := []) cw_Mo_in lk_Mo_100 sx_Mo_in (mm_at ok_Mo_told (i := 4) rfl).1 (ct_Mo_in (hp_SH ++ dy, g, r) (nI 7).toInt64 0 7) (by decide) ⟨by omega, by omega⟩ (Nat.le_of_ble_eq_true rfl) (mm_vs_b (b := 77) rfl (hp_len dy)) (fun v h' hqq => ?_)
        obtain ⟨rfl, hqe⟩ := hqq; rw [hqe]
        rw [in_8 (nI 7), hx]
        refine mm_I ok_Mo_told 5 0 9 [some (.ref 52), some (.int (nI l)), some (.int (nI 7))] [.int (iz_ (some 7))] (hp_SH ++ dy, g, r) [] rfl trivial rfl rfl (fun q => False.elim (one0 q)) (fun _ => ?_)
        refine mm_I ok_Mo_told 6 2 14 [some (.ref 52), some (.int (nI l)), some (.int (nI 7))] [.int 5, .int (nI 7)] (hp_SH ++ dy, g, r) [] rfl trivial rfl rfl (fun _ => ?_) (fun q => False.elim (absurd q (by decide)))
        refine mm_B ok_Mo_told 14 2 (30, [some (.ref 52), some (.int (nI l)), some (.int (nI 7))], [.int (nI l), .ref 52], (hp_SH ++ dy, g, r)) [] rfl trivial ?_
        refine mm_cV (as := [.int (nI l)]) (st := []) (q := 52) cw_Mo_isChild lk_Mo_121 in_Mo_isChild sl_Mo_isChild rfl rfl (mm_at ok_Mo_told (i := 16) rfl).1 (ct_Mo_isChild dy g r (nI l)) (by decide) ⟨by omega, by omega⟩ (Nat.le_of_ble_eq_true rfl) (mm_vs_b (b := 77) rfl (hp_len dy)) (fun v h' hqq => ?_)
        obtain ⟨rfl, hqe⟩ := hqq; rw [hqe]
        rw [mc_x (by omega) e14 (nI l), hy]
        refine mm_I ok_Mo_told 17 0 33 [some (.ref 52), some (.int (nI l)), some (.int (nI 7))] [.int (iz_ (some l))] (hp_SH ++ dy, g, r) [] rfl trivial rfl rfl (fun _ => ?_) (fun q => False.elim (one0 q))
        refine mm_I ok_Mo_told 20 2 41 [some (.ref 52), some (.int (nI l)), some (.int (nI 7))] [.int 3, .int (nI 7)] (hp_SH ++ dy, g, r) [] rfl trivial rfl rfl (fun _ => ?_) (fun q => False.elim (absurd q (by decide)))
        refine mm_I ok_Mo_told 43 2 80 [some (.ref 52), some (.int (nI l)), some (.int (nI 7))] [.int 5, .int (nI 7)] (hp_SH ++ dy, g, r) [] rfl trivial rfl rfl (fun _ => ?_) (fun q => False.elim (absurd q (by decide)))
        refine mm_I ok_Mo_told 57 2 104 [some (.ref 52), some (.int (nI l)), some (.int (nI 7))] [.int 5, .int (nI 7)] (hp_SH ++ dy, g, r) [] rfl trivial rfl rfl (fun _ => ?_) (fun q => False.elim (absurd q (by decide)))
        refine mm_I ok_Mo_told 65 2 119 [some (.ref 52), some (.int (nI l)), some (.int (nI 7))] [.int 6, .int (nI 7)] (hp_SH ++ dy, g, r) [] rfl trivial rfl rfl (fun _ => ?_) (fun q => False.elim (absurd q (by decide)))
        refine mm_B ok_Mo_told 73 4 (137, [some (.ref 52), some (.int (nI l)), some (.int (nI 7))], [.int (g 61 ((nI l).toNatClampNeg))], (hp_SH ++ dy, g, r)) [vp_in (nI l) 6] rfl (show vp_in (nI l) 6 from (nI_vi (by omega) (by decide))) ?_
        rw [e8]
        exact mm_ri rfl (mm_at ok_Mo_told (i := 77) rfl).1 ⟨Nat.le_refl _, Nat.le_refl _⟩ (RM_q rfl hI fr_.rf)
theorem tk_s (dy : List mm_Sh) (g : Nat → Nat → Int32) (r : (Nat → Nat → Int64) × Nat × (Nat → Int32)) {Q : Option Value → mm_Hp → Prop} {l k p : Nat} (hk : k < 6) (hp : p < 6) (h1 : p = k → mm_W 12 M_Mo_taken 0 0 Q 0 0 (51, [some (.ref 52), some (.int (nI l)), some (.int (nI k)), some (.int (nI p))], [], (hp_SH ++ dy, g, r))) (h2 : p ≠ k → mm_W 12 M_Mo_taken 0 0 Q 0 0 (33, [some (.ref 52), some (.int (nI l)), some (.int (nI k)), some (.int (f_Mo_over (nI p)))], [], (hp_SH ++ dy, g, r))) : mm_W 12 M_Mo_taken 0 0 Q 0 0 (33, [some (.ref 52), some (.int (nI l)), some (.int (nI k)), some (.int (nI p))], [], (hp_SH ++ dy, g, r)) := by
  refine mm_I ok_Mo_taken 19 2 35 [some (.ref 52), some (.int (nI l)), some (.int (nI k)), some (.int (nI p))] [.int (-1), .int (nI p)] (hp_SH ++ dy, g, r) [] rfl trivial rfl rfl (fun q => False.elim (m1_ne (by omega) q)) (fun _ => ?_)
  refine mm_I ok_Mo_taken 22 2 40 [some (.ref 52), some (.int (nI l)), some (.int (nI k)), some (.int (nI p))] [.int (nI k), .int (nI p)] (hp_SH ++ dy, g, r) [] rfl trivial rfl rfl (fun hq => ?_) (fun hq => ?_)
  · exact h1 ((nI_eq (by omega) (by omega)).mp hq)
  · refine mm_B ok_Mo_taken 25 1 (44, [some (.ref 52), some (.int (nI l)), some (.int (nI k)), some (.int (nI p))], [.int (nI p)], (hp_SH ++ dy, g, r)) [] rfl trivial ?_
    refine mm_cS (as := [.int (nI p)]) (st := []) cw_Mo_over lk_Mo_357 sx_Mo_over (mm_at ok_Mo_taken (i := 26) rfl).1 (ct_Mo_over (hp_SH ++ dy, g, r) (nI p)) (by decide) ⟨by omega, by omega⟩ (Nat.le_of_ble_eq_true rfl) (mm_vs_b (b := 77) rfl (hp_len dy)) (fun v h' hqq => ?_)
    obtain ⟨rfl, hqe⟩ := hqq; rw [hqe]
    refine mm_B ok_Mo_taken 27 2 (33, [some (.ref 52), some (.int (nI l)), some (.int (nI k)), some (.int (f_Mo_over (nI p)))], [], (hp_SH ++ dy, g, r)) [] rfl trivial ?_
    exact h2 (fun e => hq (by rw [e]))
theorem tk_m (dy : List mm_Sh) (g : Nat → Nat → Int32) (r : (Nat → Nat → Int64) × Nat × (Nat → Int32)) {Q : Option Value → mm_Hp → Prop} {l k : Nat} (h1 : mm_W 12 M_Mo_taken 0 0 Q 0 0 (51, [some (.ref 52), some (.int (nI l)), some (.int (nI k)), some (.int (-1))], [], (hp_SH ++ dy, g, r))) : mm_W 12 M_Mo_taken 0 0 Q 0 0 (33, [some (.ref 52), some (.int (nI l)), some (.int (nI k)), some (.int (-1))], [], (hp_SH ++ dy, g, r)) := by
  refine mm_I ok_Mo_taken 19 2 35 [some (.ref 52), some (.int (nI l)), some (.int (nI k)), some (.int (-1))] [.int (-1), .int (-1)] (hp_SH ++ dy, g, r) [] rfl trivial rfl rfl (fun _ => ?_) (fun q => False.elim (q rfl))
  exact h1
theorem tk_r (dy : List mm_Sh) (g : Nat → Nat → Int32) (r : (Nat → Nat → Int64) × Nat × (Nat → Int32)) {Q : Option Value → mm_Hp → Prop} {l k p : Nat} (hk : k < 6) (hp : p < 6) (h1 : un_ p k = true → mm_W 12 M_Mo_taken 0 0 Q 0 0 (51, [some (.ref 52), some (.int (nI l)), some (.int (nI k)), some (.int (nI k))], [], (hp_SH ++ dy, g, r))) (h2 : un_ p k = false → mm_W 12 M_Mo_taken 0 0 Q 0 0 (51, [some (.ref 52), some (.int (nI l)), some (.int (nI k)), some (.int (-1))], [], (hp_SH ++ dy, g, r))) : mm_W 12 M_Mo_taken 0 0 Q 0 0 (33, [some (.ref 52), some (.int (nI l)), some (.int (nI k)), some (.int (nI p))], [], (hp_SH ++ dy, g, r)) := by
  have z0 : (un_ 0 k = true → un_ p k = true) → (un_ 0 k = false → un_ p k = false) → mm_W 12 M_Mo_taken 0 0 Q 0 0 (33, [some (.ref 52), some (.int (nI l)), some (.int (nI k)), some (.int (nI 0))], [], (hp_SH ++ dy, g, r)) := fun u1 u2 => tk_s dy g r hk (by decide) (fun e => by subst e; exact h1 (u1 rfl)) (fun e => tk_m dy g r (h2 (u2 (by rcases (show k = 1 ∨ k = 2 ∨ k = 3 ∨ k = 4 ∨ k = 5 by omega) with rfl | rfl | rfl | rfl | rfl <;> rfl))))
  have z1 : (un_ 1 k = true → un_ p k = true) → (un_ 1 k = false → un_ p k = false) → mm_W 12 M_Mo_taken 0 0 Q 0 0 (33, [some (.ref 52), some (.int (nI l)), some (.int (nI k)), some (.int (nI 1))], [], (hp_SH ++ dy, g, r)) := fun u1 u2 => tk_s dy g r hk (by decide) (fun e => by subst e; exact h1 (u1 rfl)) (fun e => by
    have hu : un_ 1 k = un_ 0 k := by rcases (show k = 0 ∨ k = 2 ∨ k = 3 ∨ k = 4 ∨ k = 5 by omega) with rfl | rfl | rfl | rfl | rfl <;> rfl
    rw [hu] at u1 u2
    exact z0 u1 u2)
  have z2 : (un_ 2 k = true → un_ p k = true) → (un_ 2 k = false → un_ p k = false) → mm_W 12 M_Mo_taken 0 0 Q 0 0 (33, [some (.ref 52), some (.int (nI l)), some (.int (nI k)), some (.int (nI 2))], [], (hp_SH ++ dy, g, r)) := fun u1 u2 => tk_s dy g r hk (by decide) (fun e => by subst e; exact h1 (u1 rfl)) (fun e => by
    have hu : un_ 2 k = un_ 0 k := by rcases (show k = 0 ∨ k = 1 ∨ k = 3 ∨ k = 4 ∨ k = 5 by omega) with rfl | rfl | rfl | rfl | rfl <;> rfl
    rw [hu] at u1 u2
    exact z0 u1 u2)
  rcases (show p = 0 ∨ p = 1 ∨ p = 2 ∨ p = 3 ∨ p = 4 ∨ p = 5 by omega) with rfl | rfl | rfl | rfl | rfl | rfl
  · exact z0 id id
  · exact z1 id id
  · exact z2 id id
  · refine tk_s dy g r hk (by decide) (fun e => by subst e; exact h1 rfl) (fun e => ?_)
    have hu : un_ 3 k = un_ 1 k := by rcases (show k = 0 ∨ k = 1 ∨ k = 2 ∨ k = 4 ∨ k = 5 by omega) with rfl | rfl | rfl | rfl | rfl <;> rfl
    exact z1 (fun h => hu.trans h) (fun h => hu.trans h)
  · refine tk_s dy g r hk (by decide) (fun e => by subst e; exact h1 rfl) (fun e => ?_)
    have hu : un_ 4 k = un_ 2 k := by rcases (show k = 0 ∨ k = 1 ∨ k = 2 ∨ k = 3 ∨ k = 5 by omega) with rfl | rfl | rfl | rfl | rfl <;> rfl
    exact z2 (fun h => hu.trans h) (fun h => hu.trans h)
  · refine tk_s dy g r hk (by decide) (fun e => by subst e; exact h1 rfl) (fun e => ?_)
    have hu : un_ 5 k = un_ 1 k := by rcases (show k = 0 ∨ k = 1 ∨ k = 2 ∨ k = 3 ∨ k = 4 by omega) with rfl | rfl | rfl | rfl | rfl <;> rfl
    exact z1 (fun h => hu.trans h) (fun h => hu.trans h)
theorem cm_taken (dy : List mm_Sh) (g : Nat → Nat → Int32) (r : (Nat → Nat → Int64) × Nat × (Nat → Int32)) {A : sA} (hI : MI (nr_ g) A) (hSI : SI A) (l k : Int32) : mm_Ct 12 M_Mo_taken [.ref 52, .int l, .int k] (hp_SH ++ dy, g, r) 0 0 (RM dy g r A (.int (an_taken A l k))) := by
  have hI' := hI
  obtain ⟨hL, hK, hPl, hX, hB, hS, hIm⟩ := hI'
  have hR := dX_R hX
  have h4 := hL.2.1
  have h6 := hK.2.1
  have e10 : g 52 10 = nI A.1.1 := by rw [← nr_eq g (k := 52) (j := 10) rfl]; exact hL.1
  have e14 : g 52 14 = nI A.2.1.1 := by rw [← nr_eq g (k := 52) (j := 14) rfl]; exact hK.1
  have hpl : ∀ b, b < 6 → g 62 b = pl_c (A.2.2.1.1 b) := fun b hb => by rw [← nr_eq g (k := 62) (j := b) rfl]; exact (hPl b hb).1
  have hot : ∀ b, b < 6 → g 62 (6 + b) = pl_c (A.2.2.1.2 b) := fun b hb => by rw [← nr_eq g (k := 62) (j := 6 + b) rfl]; exact (hPl b hb).2
  have hpo : ∀ b l, b < 6 → A.2.2.1.1 b = some l → l < A.1.1 := fun b l hb h => hSI.1 b l hb (Or.inl h)
  refine mm_start pl_Mo (Nat.le_of_ble_eq_true rfl) ?_
  cases hx1 : ix_ 6 k with
  | none =>
    rw [show an_taken A l k = (-2) by unfold an_taken; rw [hx1]]
    refine mm_B ok_Mo_taken 0 4 (6, [some (.ref 52), some (.int l), some (.int k), none], [.long 5, .long 0, .long (k).toInt64], (hp_SH ++ dy, g, r)) [] rfl trivial ?_
    refine mm_cS (as := [.long (k).toInt64, .long 0, .long 5]) (st := []) cw_Mo_in lk_Mo_100 sx_Mo_in (mm_at ok_Mo_taken (i := 4) rfl).1 (ct_Mo_in (hp_SH ++ dy, g, r) k.toInt64 0 5) (by decide) ⟨by omega, by omega⟩ (Nat.le_of_ble_eq_true rfl) (mm_vs_b (b := 77) rfl (hp_len dy)) (fun v h' hqq => ?_)
    obtain ⟨rfl, hqe⟩ := hqq; rw [hqe]
    rw [in_6 k, hx1]
    refine mm_I ok_Mo_taken 5 0 9 [some (.ref 52), some (.int l), some (.int k), none] [.int (iz_ none)] (hp_SH ++ dy, g, r) [] rfl trivial rfl rfl (fun q => False.elim (q rfl)) (fun _ => ?_)
    refine mm_B ok_Mo_taken 6 1 (14, [some (.ref 52), some (.int l), some (.int k), none], [.int (-2)], (hp_SH ++ dy, g, r)) [] rfl trivial ?_
    exact mm_ri rfl (mm_at ok_Mo_taken (i := 7) rfl).1 ⟨Nat.le_refl _, Nat.le_refl _⟩ (RM_q rfl hI fr_.rf)
  | some j =>
    obtain ⟨hl1, rfl⟩ := ix_some (by omega) hx1
    cases hx2 : ix_ A.1.1 l with
    | none =>
      rw [show an_taken A l (nI j) = (-11) by unfold an_taken; rw [hx1, hx2]]
      refine mm_B ok_Mo_taken 0 4 (6, [some (.ref 52), some (.int l), some (.int (nI j)), none], [.long 5, .long 0, .long ((nI j)).toInt64], (hp_SH ++ dy, g, r)) [] rfl trivial ?_
      refine mm_cS (as := [.long ((nI j)).toInt64, .long 0, .long 5]) (st := []) cw_Mo_in lk_Mo_100 sx_Mo_in (mm_at ok_Mo_taken (i := 4) rfl).1 (ct_Mo_in (hp_SH ++ dy, g, r) (nI j).toInt64 0 5) (by decide) ⟨by omega, by omega⟩ (Nat.le_of_ble_eq_true rfl) (mm_vs_b (b := 77) rfl (hp_len dy)) (fun v h' hqq => ?_)
      obtain ⟨rfl, hqe⟩ := hqq; rw [hqe]
      rw [in_6 (nI j), ix_at hl1 (by omega)]
      refine mm_I ok_Mo_taken 5 0 9 [some (.ref 52), some (.int l), some (.int (nI j)), none] [.int (iz_ (some j))] (hp_SH ++ dy, g, r) [] rfl trivial rfl rfl (fun _ => ?_) (fun q => False.elim (one0 q))
      refine mm_B ok_Mo_taken 8 2 (17, [some (.ref 52), some (.int l), some (.int (nI j)), none], [.int l, .ref 52], (hp_SH ++ dy, g, r)) [] rfl trivial ?_
      refine mm_cV (as := [.int l]) (st := []) (q := 52) cw_Mo_isLesson lk_Mo_117 in_Mo_isLesson sl_Mo_isLesson rfl rfl (mm_at ok_Mo_taken (i := 10) rfl).1 (ct_Mo_isLesson dy g r l) (by decide) ⟨by omega, by omega⟩ (Nat.le_of_ble_eq_true rfl) (mm_vs_b (b := 77) rfl (hp_len dy)) (fun v h' hqq => ?_)
      obtain ⟨rfl, hqe⟩ := hqq; rw [hqe]
      rw [ml_x (by omega) e10 l, hx2]
      refine mm_I ok_Mo_taken 11 0 20 [some (.ref 52), some (.int l), some (.int (nI j)), none] [.int (iz_ none)] (hp_SH ++ dy, g, r) [] rfl trivial rfl rfl (fun q => False.elim (q rfl)) (fun _ => ?_)
      refine mm_B ok_Mo_taken 12 1 (25, [some (.ref 52), some (.int l), some (.int (nI j)), none], [.int (-11)], (hp_SH ++ dy, g, r)) [] rfl trivial ?_
      exact mm_ri rfl (mm_at ok_Mo_taken (i := 13) rfl).1 ⟨Nat.le_refl _, Nat.le_refl _⟩ (RM_q rfl hI fr_.rf)
    | some i =>
      obtain ⟨hl2, rfl⟩ := ix_some (by omega) hx2
      rw [show an_taken A (nI i) (nI j) = (if un_ (A.1.2.1 i) j = true then nI (A.1.2.2.1 i) else -13) from by unfold an_taken; rw [hx1, hx2]]
      obtain ⟨e3, e4, e5, k6, k9, k16⟩ := tm_f hL hl2
      refine mm_B ok_Mo_taken 0 4 (6, [some (.ref 52), some (.int (nI i)), some (.int (nI j)), none], [.long 5, .long 0, .long ((nI j)).toInt64], (hp_SH ++ dy, g, r)) [] rfl trivial ?_
      refine mm_cS (as := [.long ((nI j)).toInt64, .long 0, .long 5]) (st := []) cw_Mo_in lk_Mo_100 sx_Mo_in (mm_at ok_Mo_taken (i := 4) rfl).1 (ct_Mo_in (hp_SH ++ dy, g, r) (nI j).toInt64 0 5) (by decide) ⟨by omega, by omega⟩ (Nat.le_of_ble_eq_true rfl) (mm_vs_b (b := 77) rfl (hp_len dy)) (fun v h' hqq => ?_)
      obtain ⟨rfl, hqe⟩ := hqq; rw [hqe]
      rw [in_6 (nI j), ix_at hl1 (by omega)]
      refine mm_I ok_Mo_taken 5 0 9 [some (.ref 52), some (.int (nI i)), some (.int (nI j)), none] [.int (iz_ (some j))] (hp_SH ++ dy, g, r) [] rfl trivial rfl rfl (fun _ => ?_) (fun q => False.elim (one0 q))
      refine mm_B ok_Mo_taken 8 2 (17, [some (.ref 52), some (.int (nI i)), some (.int (nI j)), none], [.int (nI i), .ref 52], (hp_SH ++ dy, g, r)) [] rfl trivial ?_
      refine mm_cV (as := [.int (nI i)]) (st := []) (q := 52) cw_Mo_isLesson lk_Mo_117 in_Mo_isLesson sl_Mo_isLesson rfl rfl (mm_at ok_Mo_taken (i := 10) rfl).1 (ct_Mo_isLesson dy g r (nI i)) (by decide) ⟨by omega, by omega⟩ (Nat.le_of_ble_eq_true rfl) (mm_vs_b (b := 77) rfl (hp_len dy)) (fun v h' hqq => ?_)
      obtain ⟨rfl, hqe⟩ := hqq; rw [hqe]
      rw [ml_x (by omega) e10 (nI i), ix_at hl2 (by omega)]
      refine mm_I ok_Mo_taken 11 0 20 [some (.ref 52), some (.int (nI i)), some (.int (nI j)), none] [.int (iz_ (some i))] (hp_SH ++ dy, g, r) [] rfl trivial rfl rfl (fun _ => ?_) (fun q => False.elim (one0 q))
      refine mm_B ok_Mo_taken 14 5 (33, [some (.ref 52), some (.int (nI i)), some (.int (nI j)), some (.int (g 56 ((nI i).toNatClampNeg)))], [], (hp_SH ++ dy, g, r)) [vp_in (nI i) 4] rfl (show vp_in (nI i) 4 from (nI_vi (by omega) (by decide))) ?_
      rw [e3]
      refine tk_r dy g r hl1 k6 (fun hu => ?_) (fun hu => ?_)
      · rw [if_pos hu]
        refine mm_I ok_Mo_taken 29 2 53 [some (.ref 52), some (.int (nI i)), some (.int (nI j)), some (.int (nI j))] [.int (nI j), .int (nI j)] (hp_SH ++ dy, g, r) [] rfl trivial rfl rfl (fun q => False.elim (q rfl)) (fun _ => ?_)
        refine mm_B ok_Mo_taken 32 5 (67, [some (.ref 52), some (.int (nI i)), some (.int (nI j)), some (.int (nI j))], [.int (g 57 ((nI i).toNatClampNeg))], (hp_SH ++ dy, g, r)) [vp_in (nI i) 4] rfl (show vp_in (nI i) 4 from (nI_vi (by omega) (by decide))) ?_
        rw [e4]
        exact mm_ri rfl (mm_at ok_Mo_taken (i := 38) rfl).1 ⟨Nat.le_refl _, Nat.le_refl _⟩ (RM_q rfl hI fr_.rf)
      · rw [hu, if_neg (by decide)]
        refine mm_I ok_Mo_taken 29 2 53 [some (.ref 52), some (.int (nI i)), some (.int (nI j)), some (.int (-1))] [.int (nI j), .int (-1)] (hp_SH ++ dy, g, r) [] rfl trivial rfl rfl (fun _ => ?_) (fun q => False.elim (m1_ne (l := j) (by omega) q.symm))
        refine mm_B ok_Mo_taken 37 1 (67, [some (.ref 52), some (.int (nI i)), some (.int (nI j)), some (.int (-1))], [.int (-13)], (hp_SH ++ dy, g, r)) [] rfl trivial ?_
        exact mm_ri rfl (mm_at ok_Mo_taken (i := 38) rfl).1 ⟨Nat.le_refl _, Nat.le_refl _⟩ (RM_q rfl hI fr_.rf)

