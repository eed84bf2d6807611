/-! ===== Reader.word, advance ===== -/
theorem wd_go (dy : List mm_Sh) (g P : Nat → Nat → Int32) (r : (Nat → Nat → Int64) × Nat × (Nat → Int32)) (hP : nr_ g = P) {B : Nat → Int32} {n : Nat} (hN : P 31 1 = nI n) (hn : n ≤ 160) (hB : ∀ j, j < n → P 32 j = B j) {s : Nat} : ∀ (m p : Nat) (g1 : Nat → Nat → Int32), n - p ≤ m → s ≤ p → p ≤ n → fr_ f3_ g g1 → g1 31 2 = nI s → g1 31 3 = nI p → sk_ (lt_ B) n p = sk_ (lt_ B) n s → mm_W 6 M_Re_word 0 0 (fun v h' => v = some (.int (wc_ B s (sk_ (lt_ B) n s))) ∧ ∃ g', h' = (hp_SH ++ dy, g', r) ∧ fr_ f3_ g g' ∧ g' 31 2 = nI s ∧ g' 31 3 = nI (sk_ (lt_ B) n s)) 0 0 (0, [some (.ref 31)], [], (hp_SH ++ dy, g1, r)) := by
  intro m
  induction m with
  | zero =>
    intro p g1 hm hsp hp hF h12 h13 hsk
    have hP1 := hF.nr f3_nr hP
    have e1 : g1 31 1 = nI n := by rw [nr_at hP1 31 1 rfl]; exact hN
    have e9 : sk_ (lt_ B) n s = p := by rw [← hsk]; exact sk_ge (by omega)
    refine mm_B ok_Re_word 0 4 (8, [some (.ref 31)], [.int (g1 31 1), .int (g1 31 3)], (hp_SH ++ dy, g1, r)) [] rfl trivial ?_
    rw [h13]
    rw [e1]
    refine mm_I ok_Re_word 4 0 8 [some (.ref 31)] [.int (nI n), .int (nI p)] (hp_SH ++ dy, g1, r) [] rfl trivial rfl rfl (fun _ => ?_) (fun q => False.elim (q (nI_le (by omega) (by omega))))
    have hse : s ≤ sk_ (lt_ B) n s := by rw [e9]; exact hsp
    have he : sk_ (lt_ B) n s ≤ 160 := by rw [e9]; omega
    have hBs : ∀ j, s ≤ j → j < sk_ (lt_ B) n s → g1 32 j = B j := fun j h1 h2 => by rw [nr_at hP1 32 j rfl]; exact hB j (by omega)
    have h13' : g1 31 3 = nI (sk_ (lt_ B) n s) := by rw [e9]; exact h13
    refine mm_B ok_Re_word 19 2 (42, [some (.ref 31)], [.retAddr 0, .ref 31], (hp_SH ++ dy, g1, r)) [] rfl trivial ?_
    refine mm_cV (as := [.retAddr 0]) (st := []) (q := 31) cw_Re_reads lk_Re_97 in_Re_reads sl_Re_reads rfl rfl (mm_at ok_Re_word (i := 21) rfl).1 (ct_Re_reads dy g1 r (i := 0) (by decide) h12 h13' hse he hBs) (by decide) ⟨Nat.le_refl _, Nat.le_refl _⟩ (Nat.le_of_ble_eq_true rfl) (mm_vs_b (b := 77) rfl (hp_len dy)) (fun v h' hqq => ?_)
    obtain ⟨rfl, hqe⟩ := hqq
    rw [hqe]
    by_cases w0 : wm_ B s (sk_ (lt_ B) n s) (mm_sb.getD 0 []) = true
    · rw [if_pos w0]
      refine mm_I ok_Re_word 22 0 45 [some (.ref 31)] [.int 1] (hp_SH ++ dy, g1, r) [] rfl trivial rfl rfl (fun q => False.elim (absurd q (by decide))) (fun _ => ?_)
      refine mm_B ok_Re_word 23 1 (49, [some (.ref 31)], [.int (-1)], (hp_SH ++ dy, g1, r)) [] rfl trivial ?_
      exact mm_ri rfl (mm_at ok_Re_word (i := 24) rfl).1 ⟨Nat.le_refl _, Nat.le_refl _⟩ (⟨by unfold wc_ wo_; rw [if_pos w0], g1, rfl, hF, h12, h13'⟩)
    rw [if_neg w0]
    refine mm_I ok_Re_word 22 0 45 [some (.ref 31)] [.int 0] (hp_SH ++ dy, g1, r) [] rfl trivial rfl rfl (fun _ => ?_) (fun q => False.elim (q rfl))
    refine mm_B ok_Re_word 25 2 (53, [some (.ref 31)], [.retAddr 1, .ref 31], (hp_SH ++ dy, g1, r)) [] rfl trivial ?_
    refine mm_cV (as := [.retAddr 1]) (st := []) (q := 31) cw_Re_reads lk_Re_97 in_Re_reads sl_Re_reads rfl rfl (mm_at ok_Re_word (i := 27) rfl).1 (ct_Re_reads dy g1 r (i := 1) (by decide) h12 h13' hse he hBs) (by decide) ⟨Nat.le_refl _, Nat.le_refl _⟩ (Nat.le_of_ble_eq_true rfl) (mm_vs_b (b := 77) rfl (hp_len dy)) (fun v h' hqq => ?_)
    obtain ⟨rfl, hqe⟩ := hqq
    rw [hqe]
    by_cases w1 : wm_ B s (sk_ (lt_ B) n s) (mm_sb.getD 1 []) = true
    · rw [if_pos w1]
      refine mm_I ok_Re_word 28 0 56 [some (.ref 31)] [.int 1] (hp_SH ++ dy, g1, r) [] rfl trivial rfl rfl (fun q => False.elim (absurd q (by decide))) (fun _ => ?_)
      refine mm_B ok_Re_word 29 1 (61, [some (.ref 31)], [.int (-2)], (hp_SH ++ dy, g1, r)) [] rfl trivial ?_
      exact mm_ri rfl (mm_at ok_Re_word (i := 30) rfl).1 ⟨Nat.le_refl _, Nat.le_refl _⟩ (⟨by unfold wc_ wo_; rw [if_neg w0, if_pos w1], g1, rfl, hF, h12, h13'⟩)
    rw [if_neg w1]
    refine mm_I ok_Re_word 28 0 56 [some (.ref 31)] [.int 0] (hp_SH ++ dy, g1, r) [] rfl trivial rfl rfl (fun _ => ?_) (fun q => False.elim (q rfl))
    refine mm_B ok_Re_word 31 2 (65, [some (.ref 31)], [.retAddr 2, .ref 31], (hp_SH ++ dy, g1, r)) [] rfl trivial ?_
    refine mm_cV (as := [.retAddr 2]) (st := []) (q := 31) cw_Re_reads lk_Re_97 in_Re_reads sl_Re_reads rfl rfl (mm_at ok_Re_word (i := 33) rfl).1 (ct_Re_reads dy g1 r (i := 2) (by decide) h12 h13' hse he hBs) (by decide) ⟨Nat.le_refl _, Nat.le_refl _⟩ (Nat.le_of_ble_eq_true rfl) (mm_vs_b (b := 77) rfl (hp_len dy)) (fun v h' hqq => ?_)
    obtain ⟨rfl, hqe⟩ := hqq
    rw [hqe]
    by_cases w2 : wm_ B s (sk_ (lt_ B) n s) (mm_sb.getD 2 []) = true
    · rw [if_pos w2]
      refine mm_I ok_Re_word 34 0 68 [some (.ref 31)] [.int 1] (hp_SH ++ dy, g1, r) [] rfl trivial rfl rfl (fun q => False.elim (absurd q (by decide))) (fun _ => ?_)
      refine mm_B ok_Re_word 35 1 (73, [some (.ref 31)], [.int (-3)], (hp_SH ++ dy, g1, r)) [] rfl trivial ?_
      exact mm_ri rfl (mm_at ok_Re_word (i := 36) rfl).1 ⟨Nat.le_refl _, Nat.le_refl _⟩ (⟨by unfold wc_ wo_; rw [if_neg w0, if_neg w1, if_pos w2], g1, rfl, hF, h12, h13'⟩)
    rw [if_neg w2]
    refine mm_I ok_Re_word 34 0 68 [some (.ref 31)] [.int 0] (hp_SH ++ dy, g1, r) [] rfl trivial rfl rfl (fun _ => ?_) (fun q => False.elim (q rfl))
    refine mm_B ok_Re_word 37 2 (77, [some (.ref 31)], [.retAddr 3, .ref 31], (hp_SH ++ dy, g1, r)) [] rfl trivial ?_
    refine mm_cV (as := [.retAddr 3]) (st := []) (q := 31) cw_Re_reads lk_Re_97 in_Re_reads sl_Re_reads rfl rfl (mm_at ok_Re_word (i := 39) rfl).1 (ct_Re_reads dy g1 r (i := 3) (by decide) h12 h13' hse he hBs) (by decide) ⟨Nat.le_refl _, Nat.le_refl _⟩ (Nat.le_of_ble_eq_true rfl) (mm_vs_b (b := 77) rfl (hp_len dy)) (fun v h' hqq => ?_)
    obtain ⟨rfl, hqe⟩ := hqq
    rw [hqe]
    by_cases w3 : wm_ B s (sk_ (lt_ B) n s) (mm_sb.getD 3 []) = true
    · rw [if_pos w3]
      refine mm_I ok_Re_word 40 0 80 [some (.ref 31)] [.int 1] (hp_SH ++ dy, g1, r) [] rfl trivial rfl rfl (fun q => False.elim (absurd q (by decide))) (fun _ => ?_)
      refine mm_B ok_Re_word 41 1 (85, [some (.ref 31)], [.int (-4)], (hp_SH ++ dy, g1, r)) [] rfl trivial ?_
      exact mm_ri rfl (mm_at ok_Re_word (i := 42) rfl).1 ⟨Nat.le_refl _, Nat.le_refl _⟩ (⟨by unfold wc_ wo_; rw [if_neg w0, if_neg w1, if_neg w2, if_pos w3], g1, rfl, hF, h12, h13'⟩)
    rw [if_neg w3]
    refine mm_I ok_Re_word 40 0 80 [some (.ref 31)] [.int 0] (hp_SH ++ dy, g1, r) [] rfl trivial rfl rfl (fun _ => ?_) (fun q => False.elim (q rfl))
    refine mm_B ok_Re_word 43 2 (89, [some (.ref 31)], [.retAddr 4, .ref 31], (hp_SH ++ dy, g1, r)) [] rfl trivial ?_
    refine mm_cV (as := [.retAddr 4]) (st := []) (q := 31) cw_Re_reads lk_Re_97 in_Re_reads sl_Re_reads rfl rfl (mm_at ok_Re_word (i := 45) rfl).1 (ct_Re_reads dy g1 r (i := 4) (by decide) h12 h13' hse he hBs) (by decide) ⟨Nat.le_refl _, Nat.le_refl _⟩ (Nat.le_of_ble_eq_true rfl) (mm_vs_b (b := 77) rfl (hp_len dy)) (fun v h' hqq => ?_)
    obtain ⟨rfl, hqe⟩ := hqq
    rw [hqe]
    by_cases w4 : wm_ B s (sk_ (lt_ B) n s) (mm_sb.getD 4 []) = true
    · rw [if_pos w4]
      refine mm_I ok_Re_word 46 0 92 [some (.ref 31)] [.int 1] (hp_SH ++ dy, g1, r) [] rfl trivial rfl rfl (fun q => False.elim (absurd q (by decide))) (fun _ => ?_)
      refine mm_B ok_Re_word 47 1 (97, [some (.ref 31)], [.int (-5)], (hp_SH ++ dy, g1, r)) [] rfl trivial ?_
      exact mm_ri rfl (mm_at ok_Re_word (i := 48) rfl).1 ⟨Nat.le_refl _, Nat.le_refl _⟩ (⟨by unfold wc_ wo_; rw [if_neg w0, if_neg w1, if_neg w2, if_neg w3, if_pos w4], g1, rfl, hF, h12, h13'⟩)
    rw [if_neg w4]
    refine mm_I ok_Re_word 46 0 92 [some (.ref 31)] [.int 0] (hp_SH ++ dy, g1, r) [] rfl trivial rfl rfl (fun _ => ?_) (fun q => False.elim (q rfl))
    refine mm_B ok_Re_word 49 2 (101, [some (.ref 31)], [.retAddr 5, .ref 31], (hp_SH ++ dy, g1, r)) [] rfl trivial ?_
    refine mm_cV (as := [.retAddr 5]) (st := []) (q := 31) cw_Re_reads lk_Re_97 in_Re_reads sl_Re_reads rfl rfl (mm_at ok_Re_word (i := 51) rfl).1 (ct_Re_reads dy g1 r (i := 5) (by decide) h12 h13' hse he hBs) (by decide) ⟨Nat.le_refl _, Nat.le_refl _⟩ (Nat.le_of_ble_eq_true rfl) (mm_vs_b (b := 77) rfl (hp_len dy)) (fun v h' hqq => ?_)
    obtain ⟨rfl, hqe⟩ := hqq
    rw [hqe]
    by_cases w5 : wm_ B s (sk_ (lt_ B) n s) (mm_sb.getD 5 []) = true
    · rw [if_pos w5]
      refine mm_I ok_Re_word 52 0 104 [some (.ref 31)] [.int 1] (hp_SH ++ dy, g1, r) [] rfl trivial rfl rfl (fun q => False.elim (absurd q (by decide))) (fun _ => ?_)
      refine mm_B ok_Re_word 53 1 (109, [some (.ref 31)], [.int (-6)], (hp_SH ++ dy, g1, r)) [] rfl trivial ?_
      exact mm_ri rfl (mm_at ok_Re_word (i := 54) rfl).1 ⟨Nat.le_refl _, Nat.le_refl _⟩ (⟨by unfold wc_ wo_; rw [if_neg w0, if_neg w1, if_neg w2, if_neg w3, if_neg w4, if_pos w5], g1, rfl, hF, h12, h13'⟩)
    rw [if_neg w5]
    refine mm_I ok_Re_word 52 0 104 [some (.ref 31)] [.int 0] (hp_SH ++ dy, g1, r) [] rfl trivial rfl rfl (fun _ => ?_) (fun q => False.elim (q rfl))
    refine mm_B ok_Re_word 55 2 (113, [some (.ref 31)], [.retAddr 6, .ref 31], (hp_SH ++ dy, g1, r)) [] rfl trivial ?_
    refine mm_cV (as := [.retAddr 6]) (st := []) (q := 31) cw_Re_reads lk_Re_97 in_Re_reads sl_Re_reads rfl rfl (mm_at ok_Re_word (i := 57) rfl).1 (ct_Re_reads dy g1 r (i := 6) (by decide) h12 h13' hse he hBs) (by decide) ⟨Nat.le_refl _, Nat.le_refl _⟩ (Nat.le_of_ble_eq_true rfl) (mm_vs_b (b := 77) rfl (hp_len dy)) (fun v h' hqq => ?_)
    obtain ⟨rfl, hqe⟩ := hqq
    rw [hqe]
    by_cases w6 : wm_ B s (sk_ (lt_ B) n s) (mm_sb.getD 6 []) = true
    · rw [if_pos w6]
      refine mm_I ok_Re_word 58 0 116 [some (.ref 31)] [.int 1] (hp_SH ++ dy, g1, r) [] rfl trivial rfl rfl (fun q => False.elim (absurd q (by decide))) (fun _ => ?_)
      refine mm_B ok_Re_word 59 1 (121, [some (.ref 31)], [.int (-7)], (hp_SH ++ dy, g1, r)) [] rfl trivial ?_
      exact mm_ri rfl (mm_at ok_Re_word (i := 60) rfl).1 ⟨Nat.le_refl _, Nat.le_refl _⟩ (⟨by unfold wc_ wo_; rw [if_neg w0, if_neg w1, if_neg w2, if_neg w3, if_neg w4, if_neg w5, if_pos w6], g1, rfl, hF, h12, h13'⟩)
    rw [if_neg w6]
    refine mm_I ok_Re_word 58 0 116 [some (.ref 31)] [.int 0] (hp_SH ++ dy, g1, r) [] rfl trivial rfl rfl (fun _ => ?_) (fun q => False.elim (q rfl))
    refine mm_B ok_Re_word 61 2 (125, [some (.ref 31)], [.retAddr 7, .ref 31], (hp_SH ++ dy, g1, r)) [] rfl trivial ?_
    refine mm_cV (as := [.retAddr 7]) (st := []) (q := 31) cw_Re_reads lk_Re_97 in_Re_reads sl_Re_reads rfl rfl (mm_at ok_Re_word (i := 63) rfl).1 (ct_Re_reads dy g1 r (i := 7) (by decide) h12 h13' hse he hBs) (by decide) ⟨Nat.le_refl _, Nat.le_refl _⟩ (Nat.le_of_ble_eq_true rfl) (mm_vs_b (b := 77) rfl (hp_len dy)) (fun v h' hqq => ?_)
    obtain ⟨rfl, hqe⟩ := hqq
    rw [hqe]
    by_cases w7 : wm_ B s (sk_ (lt_ B) n s) (mm_sb.getD 7 []) = true
    · rw [if_pos w7]
      refine mm_I ok_Re_word 64 0 128 [some (.ref 31)] [.int 1] (hp_SH ++ dy, g1, r) [] rfl trivial rfl rfl (fun q => False.elim (absurd q (by decide))) (fun _ => ?_)
      refine mm_B ok_Re_word 65 1 (133, [some (.ref 31)], [.int (-8)], (hp_SH ++ dy, g1, r)) [] rfl trivial ?_
      exact mm_ri rfl (mm_at ok_Re_word (i := 66) rfl).1 ⟨Nat.le_refl _, Nat.le_refl _⟩ (⟨by unfold wc_ wo_; rw [if_neg w0, if_neg w1, if_neg w2, if_neg w3, if_neg w4, if_neg w5, if_neg w6, if_pos w7], g1, rfl, hF, h12, h13'⟩)
    rw [if_neg w7]
    refine mm_I ok_Re_word 64 0 128 [some (.ref 31)] [.int 0] (hp_SH ++ dy, g1, r) [] rfl trivial rfl rfl (fun _ => ?_) (fun q => False.elim (q rfl))
    refine mm_B ok_Re_word 67 2 (137, [some (.ref 31)], [.retAddr 8, .ref 31], (hp_SH ++ dy, g1, r)) [] rfl trivial ?_
    refine mm_cV (as := [.retAddr 8]) (st := []) (q := 31) cw_Re_reads lk_Re_97 in_Re_reads sl_Re_reads rfl rfl (mm_at ok_Re_word (i := 69) rfl).1 (ct_Re_reads dy g1 r (i := 8) (by decide) h12 h13' hse he hBs) (by decide) ⟨Nat.le_refl _, Nat.le_refl _⟩ (Nat.le_of_ble_eq_true rfl) (mm_vs_b (b := 77) rfl (hp_len dy)) (fun v h' hqq => ?_)
    obtain ⟨rfl, hqe⟩ := hqq
    rw [hqe]
    by_cases w8 : wm_ B s (sk_ (lt_ B) n s) (mm_sb.getD 8 []) = true
    · rw [if_pos w8]
      refine mm_I ok_Re_word 70 0 140 [some (.ref 31)] [.int 1] (hp_SH ++ dy, g1, r) [] rfl trivial rfl rfl (fun q => False.elim (absurd q (by decide))) (fun _ => ?_)
      refine mm_B ok_Re_word 71 1 (145, [some (.ref 31)], [.int (-9)], (hp_SH ++ dy, g1, r)) [] rfl trivial ?_
      exact mm_ri rfl (mm_at ok_Re_word (i := 72) rfl).1 ⟨Nat.le_refl _, Nat.le_refl _⟩ (⟨by unfold wc_ wo_; rw [if_neg w0, if_neg w1, if_neg w2, if_neg w3, if_neg w4, if_neg w5, if_neg w6, if_neg w7, if_pos w8], g1, rfl, hF, h12, h13'⟩)
    rw [if_neg w8]
    refine mm_I ok_Re_word 70 0 140 [some (.ref 31)] [.int 0] (hp_SH ++ dy, g1, r) [] rfl trivial rfl rfl (fun _ => ?_) (fun q => False.elim (q rfl))
    refine mm_B ok_Re_word 73 2 (149, [some (.ref 31)], [.retAddr 9, .ref 31], (hp_SH ++ dy, g1, r)) [] rfl trivial ?_
    refine mm_cV (as := [.retAddr 9]) (st := []) (q := 31) cw_Re_reads lk_Re_97 in_Re_reads sl_Re_reads rfl rfl (mm_at ok_Re_word (i := 75) rfl).1 (ct_Re_reads dy g1 r (i := 9) (by decide) h12 h13' hse he hBs) (by decide) ⟨Nat.le_refl _, Nat.le_refl _⟩ (Nat.le_of_ble_eq_true rfl) (mm_vs_b (b := 77) rfl (hp_len dy)) (fun v h' hqq => ?_)
    obtain ⟨rfl, hqe⟩ := hqq
    rw [hqe]
    by_cases w9 : wm_ B s (sk_ (lt_ B) n s) (mm_sb.getD 9 []) = true
    · rw [if_pos w9]
      refine mm_I ok_Re_word 76 0 152 [some (.ref 31)] [.int 1] (hp_SH ++ dy, g1, r) [] rfl trivial rfl rfl (fun q => False.elim (absurd q (by decide))) (fun _ => ?_)
      refine mm_B ok_Re_word 77 1 (157, [some (.ref 31)], [.int (-19)], (hp_SH ++ dy, g1, r)) [] rfl trivial ?_
      exact mm_ri rfl (mm_at ok_Re_word (i := 78) rfl).1 ⟨Nat.le_refl _, Nat.le_refl _⟩ (⟨by unfold wc_ wo_; rw [if_neg w0, if_neg w1, if_neg w2, if_neg w3, if_neg w4, if_neg w5, if_neg w6, if_neg w7, if_neg w8, if_pos w9], g1, rfl, hF, h12, h13'⟩)
    rw [if_neg w9]
    refine mm_I ok_Re_word 76 0 152 [some (.ref 31)] [.int 0] (hp_SH ++ dy, g1, r) [] rfl trivial rfl rfl (fun _ => ?_) (fun q => False.elim (q rfl))
    refine mm_B ok_Re_word 79 2 (161, [some (.ref 31)], [.retAddr 10, .ref 31], (hp_SH ++ dy, g1, r)) [] rfl trivial ?_
    refine mm_cV (as := [.retAddr 10]) (st := []) (q := 31) cw_Re_reads lk_Re_97 in_Re_reads sl_Re_reads rfl rfl (mm_at ok_Re_word (i := 81) rfl).1 (ct_Re_reads dy g1 r (i := 10) (by decide) h12 h13' hse he hBs) (by decide) ⟨Nat.le_refl _, Nat.le_refl _⟩ (Nat.le_of_ble_eq_true rfl) (mm_vs_b (b := 77) rfl (hp_len dy)) (fun v h' hqq => ?_)
    obtain ⟨rfl, hqe⟩ := hqq
    rw [hqe]
    by_cases w10 : wm_ B s (sk_ (lt_ B) n s) (mm_sb.getD 10 []) = true
    · rw [if_pos w10]
      refine mm_I ok_Re_word 82 0 164 [some (.ref 31)] [.int 1] (hp_SH ++ dy, g1, r) [] rfl trivial rfl rfl (fun q => False.elim (absurd q (by decide))) (fun _ => ?_)
      refine mm_B ok_Re_word 83 1 (169, [some (.ref 31)], [.int (-20)], (hp_SH ++ dy, g1, r)) [] rfl trivial ?_
      exact mm_ri rfl (mm_at ok_Re_word (i := 84) rfl).1 ⟨Nat.le_refl _, Nat.le_refl _⟩ (⟨by unfold wc_ wo_; rw [if_neg w0, if_neg w1, if_neg w2, if_neg w3, if_neg w4, if_neg w5, if_neg w6, if_neg w7, if_neg w8, if_neg w9, if_pos w10], g1, rfl, hF, h12, h13'⟩)
    rw [if_neg w10]
    refine mm_I ok_Re_word 82 0 164 [some (.ref 31)] [.int 0] (hp_SH ++ dy, g1, r) [] rfl trivial rfl rfl (fun _ => ?_) (fun q => False.elim (q rfl))
    refine mm_B ok_Re_word 85 2 (173, [some (.ref 31)], [.retAddr 11, .ref 31], (hp_SH ++ dy, g1, r)) [] rfl trivial ?_
    refine mm_cV (as := [.retAddr 11]) (st := []) (q := 31) cw_Re_reads lk_Re_97 in_Re_reads sl_Re_reads rfl rfl (mm_at ok_Re_word (i := 87) rfl).1 (ct_Re_reads dy g1 r (i := 11) (by decide) h12 h13' hse he hBs) (by decide) ⟨Nat.le_refl _, Nat.le_refl _⟩ (Nat.le_of_ble_eq_true rfl) (mm_vs_b (b := 77) rfl (hp_len dy)) (fun v h' hqq => ?_)
    obtain ⟨rfl, hqe⟩ := hqq
    rw [hqe]
    by_cases w11 : wm_ B s (sk_ (lt_ B) n s) (mm_sb.getD 11 []) = true
    · rw [if_pos w11]
      refine mm_I ok_Re_word 88 0 176 [some (.ref 31)] [.int 1] (hp_SH ++ dy, g1, r) [] rfl trivial rfl rfl (fun q => False.elim (absurd q (by decide))) (fun _ => ?_)
      refine mm_B ok_Re_word 89 2 (186, [some (.ref 31)], [.int (-21)], (hp_SH ++ dy, g1, r)) [] rfl trivial ?_
      exact mm_ri rfl (mm_at ok_Re_word (i := 92) rfl).1 ⟨Nat.le_refl _, Nat.le_refl _⟩ (⟨by unfold wc_ wo_; rw [if_neg w0, if_neg w1, if_neg w2, if_neg w3, if_neg w4, if_neg w5, if_neg w6, if_neg w7, if_neg w8, if_neg w9, if_neg w10, if_pos w11], g1, rfl, hF, h12, h13'⟩)
    rw [if_neg w11]
    refine mm_I ok_Re_word 88 0 176 [some (.ref 31)] [.int 0] (hp_SH ++ dy, g1, r) [] rfl trivial rfl rfl (fun _ => ?_) (fun q => False.elim (q rfl))
    refine mm_B ok_Re_word 91 1 (186, [some (.ref 31)], [.int (-23)], (hp_SH ++ dy, g1, r)) [] rfl trivial ?_
    exact mm_ri rfl (mm_at ok_Re_word (i := 92) rfl).1 ⟨Nat.le_refl _, Nat.le_refl _⟩ (⟨by unfold wc_ wo_; rw [if_neg w0, if_neg w1, if_neg w2, if_neg w3, if_neg w4, if_neg w5, if_neg w6, if_neg w7, if_neg w8, if_neg w9, if_neg w10, if_neg w11], g1, rfl, hF, h12, h13'⟩)
  | succ m ih =>
    intro p g1 hm hsp hp hF h12 h13 hsk
    by_cases hkn : p = n
    · exact ih p g1 (by omega) hsp hp hF h12 h13 hsk
    have hP1 := hF.nr f3_nr hP
    have e1 : g1 31 1 = nI n := by rw [nr_at hP1 31 1 rfl]; exact hN
    have eb : g1 32 (nI p).toNatClampNeg = B p := by rw [nI_clamp (by omega), nr_at hP1 32 _ rfl]; exact hB _ (by omega)
    refine mm_B ok_Re_word 0 4 (8, [some (.ref 31)], [.int (g1 31 1), .int (g1 31 3)], (hp_SH ++ dy, g1, r)) [] rfl trivial ?_
    rw [h13]
    rw [e1]
    refine mm_I ok_Re_word 4 0 8 [some (.ref 31)] [.int (nI n), .int (nI p)] (hp_SH ++ dy, g1, r) [] rfl trivial rfl rfl (fun q => False.elim (nI_ge (show p < n by omega) (by omega) q)) (fun _ => ?_)
    refine mm_B ok_Re_word 5 5 (20, [some (.ref 31)], [.int (g1 32 ((g1 31 3).toNatClampNeg))], (hp_SH ++ dy, g1, r)) [vp_in (g1 31 3) 160] rfl (show vp_in (g1 31 3) 160 from (by rw [h13]; exact nI_vi (by omega) (by decide))) ?_
    rw [h13]
    rw [eb]
    refine mm_cS (as := [.int (B p)]) (st := []) cw_Re_isLetter lk_Re_85 sx_Re_isLetter (mm_at ok_Re_word (i := 10) rfl).1 (ct_Re_isLetter (hp_SH ++ dy, g1, r) (B p)) (by decide) ⟨by omega, by omega⟩ (Nat.le_of_ble_eq_true rfl) (mm_vs_b (b := 77) rfl (hp_len dy)) (fun v h' hqq => ?_)
    obtain ⟨rfl, hqe⟩ := hqq; rw [hqe]
    by_cases hd : lt_ B p = true
    · have hd1 : f_Re_isLetter (B p) = 1 := of_decide_eq_true hd
      rw [hd1]
      refine mm_I ok_Re_word 11 0 23 [some (.ref 31)] [.int 1] (hp_SH ++ dy, g1, r) [] rfl trivial rfl rfl (fun q => False.elim (absurd q (by decide))) (fun _ => ?_)
      refine mm_B ok_Re_word 12 7 (0, [some (.ref 31)], [], (hp_SH ++ dy, mm_up g1 31 3 ((g1 31 3) + 1), r)) [] rfl trivial ?_
      rw [h13]
      rw [nI_1]
      exact ih (p + 1) (mm_up g1 31 3 (nI (p + 1))) (by omega) (by omega) (by omega) (hF.up _ rfl) h12 rfl (by rw [← hsk, sk_T hd (by omega)])
    · have hd1 : f_Re_isLetter (B p) = 0 := (zo_Re_isLetter _).resolve_right (fun e => hd (decide_eq_true e))
      rw [hd1]
      refine mm_I ok_Re_word 11 0 23 [some (.ref 31)] [.int 0] (hp_SH ++ dy, g1, r) [] rfl trivial rfl rfl (fun _ => ?_) (fun q => False.elim (q rfl))
      have e9 : sk_ (lt_ B) n s = p := by rw [← hsk]; exact sk_F (by simpa using hd)
      have hse : s ≤ sk_ (lt_ B) n s := by rw [e9]; exact hsp
      have he : sk_ (lt_ B) n s ≤ 160 := by rw [e9]; omega
      have hBs : ∀ j, s ≤ j → j < sk_ (lt_ B) n s → g1 32 j = B j := fun j h1 h2 => by rw [nr_at hP1 32 j rfl]; exact hB j (by omega)
      have h13' : g1 31 3 = nI (sk_ (lt_ B) n s) := by rw [e9]; exact h13
      refine mm_B ok_Re_word 19 2 (42, [some (.ref 31)], [.retAddr 0, .ref 31], (hp_SH ++ dy, g1, r)) [] rfl trivial ?_
      refine mm_cV (as := [.retAddr 0]) (st := []) (q := 31) cw_Re_reads lk_Re_97 in_Re_reads sl_Re_reads rfl rfl (mm_at ok_Re_word (i := 21) rfl).1 (ct_Re_reads dy g1 r (i := 0) (by decide) h12 h13' hse he hBs) (by decide) ⟨Nat.le_refl _, Nat.le_refl _⟩ (Nat.le_of_ble_eq_true rfl) (mm_vs_b (b := 77) rfl (hp_len dy)) (fun v h' hqq => ?_)
      obtain ⟨rfl, hqe⟩ := hqq
      rw [hqe]
      by_cases w0 : wm_ B s (sk_ (lt_ B) n s) (mm_sb.getD 0 []) = true
      · rw [if_pos w0]
        refine mm_I ok_Re_word 22 0 45 [some (.ref 31)] [.int 1] (hp_SH ++ dy, g1, r) [] rfl trivial rfl rfl (fun q => False.elim (absurd q (by decide))) (fun _ => ?_)
        refine mm_B ok_Re_word 23 1 (49, [some (.ref 31)], [.int (-1)], (hp_SH ++ dy, g1, r)) [] rfl trivial ?_
        exact mm_ri rfl (mm_at ok_Re_word (i := 24) rfl).1 ⟨Nat.le_refl _, Nat.le_refl _⟩ (⟨by unfold wc_ wo_; rw [if_pos w0], g1, rfl, hF, h12, h13'⟩)
      rw [if_neg w0]
      refine mm_I ok_Re_word 22 0 45 [some (.ref 31)] [.int 0] (hp_SH ++ dy, g1, r) [] rfl trivial rfl rfl (fun _ => ?_) (fun q => False.elim (q rfl))
      refine mm_B ok_Re_word 25 2 (53, [some (.ref 31)], [.retAddr 1, .ref 31], (hp_SH ++ dy, g1, r)) [] rfl trivial ?_
      refine mm_cV (as := [.retAddr 1]) (st := []) (q := 31) cw_Re_reads lk_Re_97 in_Re_reads sl_Re_reads rfl rfl (mm_at ok_Re_word (i := 27) rfl).1 (ct_Re_reads dy g1 r (i := 1) (by decide) h12 h13' hse he hBs) (by decide) ⟨Nat.le_refl _, Nat.le_refl _⟩ (Nat.le_of_ble_eq_true rfl) (mm_vs_b (b := 77) rfl (hp_len dy)) (fun v h' hqq => ?_)
      obtain ⟨rfl, hqe⟩ := hqq
      rw [hqe]
      by_cases w1 : wm_ B s (sk_ (lt_ B) n s) (mm_sb.getD 1 []) = true
      · rw [if_pos w1]
        refine mm_I ok_Re_word 28 0 56 [some (.ref 31)] [.int 1] (hp_SH ++ dy, g1, r) [] rfl trivial rfl rfl (fun q => False.elim (absurd q (by decide))) (fun _ => ?_)
        refine mm_B ok_Re_word 29 1 (61, [some (.ref 31)], [.int (-2)], (hp_SH ++ dy, g1, r)) [] rfl trivial ?_
        exact mm_ri rfl (mm_at ok_Re_word (i := 30) rfl).1 ⟨Nat.le_refl _, Nat.le_refl _⟩ (⟨by unfold wc_ wo_; rw [if_neg w0, if_pos w1], g1, rfl, hF, h12, h13'⟩)
      rw [if_neg w1]
      refine mm_I ok_Re_word 28 0 56 [some (.ref 31)] [.int 0] (hp_SH ++ dy, g1, r) [] rfl trivial rfl rfl (fun _ => ?_) (fun q => False.elim (q rfl))
      refine mm_B ok_Re_word 31 2 (65, [some (.ref 31)], [.retAddr 2, .ref 31], (hp_SH ++ dy, g1, r)) [] rfl trivial ?_
      refine mm_cV (as := [.retAddr 2]) (st := []) (q := 31) cw_Re_reads lk_Re_97 in_Re_reads sl_Re_reads rfl rfl (mm_at ok_Re_word (i := 33) rfl).1 (ct_Re_reads dy g1 r (i := 2) (by decide) h12 h13' hse he hBs) (by decide) ⟨Nat.le_refl _, Nat.le_refl _⟩ (Nat.le_of_ble_eq_true rfl) (mm_vs_b (b := 77) rfl (hp_len dy)) (fun v h' hqq => ?_)
      obtain ⟨rfl, hqe⟩ := hqq
      rw [hqe]
      by_cases w2 : wm_ B s (sk_ (lt_ B) n s) (mm_sb.getD 2 []) = true
      · rw [if_pos w2]
        refine mm_I ok_Re_word 34 0 68 [some (.ref 31)] [.int 1] (hp_SH ++ dy, g1, r) [] rfl trivial rfl rfl (fun q => False.elim (absurd q (by decide))) (fun _ => ?_)
        refine mm_B ok_Re_word 35 1 (73, [some (.ref 31)], [.int (-3)], (hp_SH ++ dy, g1, r)) [] rfl trivial ?_
        exact mm_ri rfl (mm_at ok_Re_word (i := 36) rfl).1 ⟨Nat.le_refl _, Nat.le_refl _⟩ (⟨by unfold wc_ wo_; rw [if_neg w0, if_neg w1, if_pos w2], g1, rfl, hF, h12, h13'⟩)
      rw [if_neg w2]
      refine mm_I ok_Re_word 34 0 68 [some (.ref 31)] [.int 0] (hp_SH ++ dy, g1, r) [] rfl trivial rfl rfl (fun _ => ?_) (fun q => False.elim (q rfl))
      refine mm_B ok_Re_word 37 2 (77, [some (.ref 31)], [.retAddr 3, .ref 31], (hp_SH ++ dy, g1, r)) [] rfl trivial ?_
      refine mm_cV (as := [.retAddr 3]) (st := []) (q := 31) cw_Re_reads lk_Re_97 in_Re_reads sl_Re_reads rfl rfl (mm_at ok_Re_word (i := 39) rfl).1 (ct_Re_reads dy g1 r (i := 3) (by decide) h12 h13' hse he hBs) (by decide) ⟨Nat.le_refl _, Nat.le_refl _⟩ (Nat.le_of_ble_eq_true rfl) (mm_vs_b (b := 77) rfl (hp_len dy)) (fun v h' hqq => ?_)
      obtain ⟨rfl, hqe⟩ := hqq
      rw [hqe]
      by_cases w3 : wm_ B s (sk_ (lt_ B) n s) (mm_sb.getD 3 []) = true
      · rw [if_pos w3]
        refine mm_I ok_Re_word 40 0 80 [some (.ref 31)] [.int 1] (hp_SH ++ dy, g1, r) [] rfl trivial rfl rfl (fun q => False.elim (absurd q (by decide))) (fun _ => ?_)
        refine mm_B ok_Re_word 41 1 (85, [some (.ref 31)], [.int (-4)], (hp_SH ++ dy, g1, r)) [] rfl trivial ?_
        exact mm_ri rfl (mm_at ok_Re_word (i := 42) rfl).1 ⟨Nat.le_refl _, Nat.le_refl _⟩ (⟨by unfold wc_ wo_; rw [if_neg w0, if_neg w1, if_neg w2, if_pos w3], g1, rfl, hF, h12, h13'⟩)
      rw [if_neg w3]
      refine mm_I ok_Re_word 40 0 80 [some (.ref 31)] [.int 0] (hp_SH ++ dy, g1, r) [] rfl trivial rfl rfl (fun _ => ?_) (fun q => False.elim (q rfl))
      refine mm_B ok_Re_word 43 2 (89, [some (.ref 31)], [.retAddr 4, .ref 31], (hp_SH ++ dy, g1, r)) [] rfl trivial ?_
      refine mm_cV (as := [.retAddr 4]) (st := []) (q := 31) cw_Re_reads lk_Re_97 in_Re_reads sl_Re_reads rfl rfl (mm_at ok_Re_word (i := 45) rfl).1 (ct_Re_reads dy g1 r (i := 4) (by decide) h12 h13' hse he hBs) (by decide) ⟨Nat.le_refl _, Nat.le_refl _⟩ (Nat.le_of_ble_eq_true rfl) (mm_vs_b (b := 77) rfl (hp_len dy)) (fun v h' hqq => ?_)
      obtain ⟨rfl, hqe⟩ := hqq
      rw [hqe]
      by_cases w4 : wm_ B s (sk_ (lt_ B) n s) (mm_sb.getD 4 []) = true
      · rw [if_pos w4]
        refine mm_I ok_Re_word 46 0 92 [some (.ref 31)] [.int 1] (hp_SH ++ dy, g1, r) [] rfl trivial rfl rfl (fun q => False.elim (absurd q (by decide))) (fun _ => ?_)
        refine mm_B ok_Re_word 47 1 (97, [some (.ref 31)], [.int (-5)], (hp_SH ++ dy, g1, r)) [] rfl trivial ?_
        exact mm_ri rfl (mm_at ok_Re_word (i := 48) rfl).1 ⟨Nat.le_refl _, Nat.le_refl _⟩ (⟨by unfold wc_ wo_; rw [if_neg w0, if_neg w1, if_neg w2, if_neg w3, if_pos w4], g1, rfl, hF, h12, h13'⟩)
      rw [if_neg w4]
      refine mm_I ok_Re_word 46 0 92 [some (.ref 31)] [.int 0] (hp_SH ++ dy, g1, r) [] rfl trivial rfl rfl (fun _ => ?_) (fun q => False.elim (q rfl))
      refine mm_B ok_Re_word 49 2 (101, [some (.ref 31)], [.retAddr 5, .ref 31], (hp_SH ++ dy, g1, r)) [] rfl trivial ?_
      refine mm_cV (as := [.retAddr 5]) (st := []) (q := 31) cw_Re_reads lk_Re_97 in_Re_reads sl_Re_reads rfl rfl (mm_at ok_Re_word (i := 51) rfl).1 (ct_Re_reads dy g1 r (i := 5) (by decide) h12 h13' hse he hBs) (by decide) ⟨Nat.le_refl _, Nat.le_refl _⟩ (Nat.le_of_ble_eq_true rfl) (mm_vs_b (b := 77) rfl (hp_len dy)) (fun v h' hqq => ?_)
      obtain ⟨rfl, hqe⟩ := hqq
      rw [hqe]
      by_cases w5 : wm_ B s (sk_ (lt_ B) n s) (mm_sb.getD 5 []) = true
      · rw [if_pos w5]
        refine mm_I ok_Re_word 52 0 104 [some (.ref 31)] [.int 1] (hp_SH ++ dy, g1, r) [] rfl trivial rfl rfl (fun q => False.elim (absurd q (by decide))) (fun _ => ?_)
        refine mm_B ok_Re_word 53 1 (109, [some (.ref 31)], [.int (-6)], (hp_SH ++ dy, g1, r)) [] rfl trivial ?_
        exact mm_ri rfl (mm_at ok_Re_word (i := 54) rfl).1 ⟨Nat.le_refl _, Nat.le_refl _⟩ (⟨by unfold wc_ wo_; rw [if_neg w0, if_neg w1, if_neg w2, if_neg w3, if_neg w4, if_pos w5], g1, rfl, hF, h12, h13'⟩)
      rw [if_neg w5]
      refine mm_I ok_Re_word 52 0 104 [some (.ref 31)] [.int 0] (hp_SH ++ dy, g1, r) [] rfl trivial rfl rfl (fun _ => ?_) (fun q => False.elim (q rfl))
      refine mm_B ok_Re_word 55 2 (113, [some (.ref 31)], [.retAddr 6, .ref 31], (hp_SH ++ dy, g1, r)) [] rfl trivial ?_
      refine mm_cV (as := [.retAddr 6]) (st := []) (q := 31) cw_Re_reads lk_Re_97 in_Re_reads sl_Re_reads rfl rfl (mm_at ok_Re_word (i := 57) rfl).1 (ct_Re_reads dy g1 r (i := 6) (by decide) h12 h13' hse he hBs) (by decide) ⟨Nat.le_refl _, Nat.le_refl _⟩ (Nat.le_of_ble_eq_true rfl) (mm_vs_b (b := 77) rfl (hp_len dy)) (fun v h' hqq => ?_)
      obtain ⟨rfl, hqe⟩ := hqq
      rw [hqe]
      by_cases w6 : wm_ B s (sk_ (lt_ B) n s) (mm_sb.getD 6 []) = true
      · rw [if_pos w6]
        refine mm_I ok_Re_word 58 0 116 [some (.ref 31)] [.int 1] (hp_SH ++ dy, g1, r) [] rfl trivial rfl rfl (fun q => False.elim (absurd q (by decide))) (fun _ => ?_)
        refine mm_B ok_Re_word 59 1 (121, [some (.ref 31)], [.int (-7)], (hp_SH ++ dy, g1, r)) [] rfl trivial ?_
        exact mm_ri rfl (mm_at ok_Re_word (i := 60) rfl).1 ⟨Nat.le_refl _, Nat.le_refl _⟩ (⟨by unfold wc_ wo_; rw [if_neg w0, if_neg w1, if_neg w2, if_neg w3, if_neg w4, if_neg w5, if_pos w6], g1, rfl, hF, h12, h13'⟩)
      rw [if_neg w6]
      refine mm_I ok_Re_word 58 0 116 [some (.ref 31)] [.int 0] (hp_SH ++ dy, g1, r) [] rfl trivial rfl rfl (fun _ => ?_) (fun q => False.elim (q rfl))
      refine mm_B ok_Re_word 61 2 (125, [some (.ref 31)], [.retAddr 7, .ref 31], (hp_SH ++ dy, g1, r)) [] rfl trivial ?_
      refine mm_cV (as := [.retAddr 7]) (st := []) (q := 31) cw_Re_reads lk_Re_97 in_Re_reads sl_Re_reads rfl rfl (mm_at ok_Re_word (i := 63) rfl).1 (ct_Re_reads dy g1 r (i := 7) (by decide) h12 h13' hse he hBs) (by decide) ⟨Nat.le_refl _, Nat.le_refl _⟩ (Nat.le_of_ble_eq_true rfl) (mm_vs_b (b := 77) rfl (hp_len dy)) (fun v h' hqq => ?_)
      obtain ⟨rfl, hqe⟩ := hqq
      rw [hqe]
      by_cases w7 : wm_ B s (sk_ (lt_ B) n s) (mm_sb.getD 7 []) = true
      · rw [if_pos w7]
        refine mm_I ok_Re_word 64 0 128 [some (.ref 31)] [.int 1] (hp_SH ++ dy, g1, r) [] rfl trivial rfl rfl (fun q => False.elim (absurd q (by decide))) (fun _ => ?_)
        refine mm_B ok_Re_word 65 1 (133, [some (.ref 31)], [.int (-8)], (hp_SH ++ dy, g1, r)) [] rfl trivial ?_
        exact mm_ri rfl (mm_at ok_Re_word (i := 66) rfl).1 ⟨Nat.le_refl _, Nat.le_refl _⟩ (⟨by unfold wc_ wo_; rw [if_neg w0, if_neg w1, if_neg w2, if_neg w3, if_neg w4, if_neg w5, if_neg w6, if_pos w7], g1, rfl, hF, h12, h13'⟩)
      rw [if_neg w7]
      refine mm_I ok_Re_word 64 0 128 [some (.ref 31)] [.int 0] (hp_SH ++ dy, g1, r) [] rfl trivial rfl rfl (fun _ => ?_) (fun q => False.elim (q rfl))
      refine mm_B ok_Re_word 67 2 (137, [some (.ref 31)], [.retAddr 8, .ref 31], (hp_SH ++ dy, g1, r)) [] rfl trivial ?_
      refine mm_cV (as := [.retAddr 8]) (st := []) (q := 31) cw_Re_reads lk_Re_97 in_Re_reads sl_Re_reads rfl rfl (mm_at ok_Re_word (i := 69) rfl).1 (ct_Re_reads dy g1 r (i := 8) (by decide) h12 h13' hse he hBs) (by decide) ⟨Nat.le_refl _, Nat.le_refl _⟩ (Nat.le_of_ble_eq_true rfl) (mm_vs_b (b := 77) rfl (hp_len dy)) (fun v h' hqq => ?_)
      obtain ⟨rfl, hqe⟩ := hqq
      rw [hqe]
      by_cases w8 : wm_ B s (sk_ (lt_ B) n s) (mm_sb.getD 8 []) = true
      · rw [if_pos w8]
        refine mm_I ok_Re_word 70 0 140 [some (.ref 31)] [.int 1] (hp_SH ++ dy, g1, r) [] rfl trivial rfl rfl (fun q => False.elim (absurd q (by decide))) (fun _ => ?_)
        refine mm_B ok_Re_word 71 1 (145, [some (.ref 31)], [.int (-9)], (hp_SH ++ dy, g1, r)) [] rfl trivial ?_
        exact mm_ri rfl (mm_at ok_Re_word (i := 72) rfl).1 ⟨Nat.le_refl _, Nat.le_refl _⟩ (⟨by unfold wc_ wo_; rw [if_neg w0, if_neg w1, if_neg w2, if_neg w3, if_neg w4, if_neg w5, if_neg w6, if_neg w7, if_pos w8], g1, rfl, hF, h12, h13'⟩)
      rw [if_neg w8]
      refine mm_I ok_Re_word 70 0 140 [some (.ref 31)] [.int 0] (hp_SH ++ dy, g1, r) [] rfl trivial rfl rfl (fun _ => ?_) (fun q => False.elim (q rfl))
      refine mm_B ok_Re_word 73 2 (149, [some (.ref 31)], [.retAddr 9, .ref 31], (hp_SH ++ dy, g1, r)) [] rfl trivial ?_
      refine mm_cV (as := [.retAddr 9]) (st := []) (q := 31) cw_Re_reads lk_Re_97 in_Re_reads sl_Re_reads rfl rfl (mm_at ok_Re_word (i := 75) rfl).1 (ct_Re_reads dy g1 r (i := 9) (by decide) h12 h13' hse he hBs) (by decide) ⟨Nat.le_refl _, Nat.le_refl _⟩ (Nat.le_of_ble_eq_true rfl) (mm_vs_b (b := 77) rfl (hp_len dy)) (fun v h' hqq => ?_)
      obtain ⟨rfl, hqe⟩ := hqq
      rw [hqe]
      by_cases w9 : wm_ B s (sk_ (lt_ B) n s) (mm_sb.getD 9 []) = true
      · rw [if_pos w9]
        refine mm_I ok_Re_word 76 0 152 [some (.ref 31)] [.int 1] (hp_SH ++ dy, g1, r) [] rfl trivial rfl rfl (fun q => False.elim (absurd q (by decide))) (fun _ => ?_)
        refine mm_B ok_Re_word 77 1 (157, [some (.ref 31)], [.int (-19)], (hp_SH ++ dy, g1, r)) [] rfl trivial ?_
        exact mm_ri rfl (mm_at ok_Re_word (i := 78) rfl).1 ⟨Nat.le_refl _, Nat.le_refl _⟩ (⟨by unfold wc_ wo_; rw [if_neg w0, if_neg w1, if_neg w2, if_neg w3, if_neg w4, if_neg w5, if_neg w6, if_neg w7, if_neg w8, if_pos w9], g1, rfl, hF, h12, h13'⟩)
      rw [if_neg w9]
      refine mm_I ok_Re_word 76 0 152 [some (.ref 31)] [.int 0] (hp_SH ++ dy, g1, r) [] rfl trivial rfl rfl (fun _ => ?_) (fun q => False.elim (q rfl))
      refine mm_B ok_Re_word 79 2 (161, [some (.ref 31)], [.retAddr 10, .ref 31], (hp_SH ++ dy, g1, r)) [] rfl trivial ?_
      refine mm_cV (as := [.retAddr 10]) (st := []) (q := 31) cw_Re_reads lk_Re_97 in_Re_reads sl_Re_reads rfl rfl (mm_at ok_Re_word (i := 81) rfl).1 (ct_Re_reads dy g1 r (i := 10) (by decide) h12 h13' hse he hBs) (by decide) ⟨Nat.le_refl _, Nat.le_refl _⟩ (Nat.le_of_ble_eq_true rfl) (mm_vs_b (b := 77) rfl (hp_len dy)) (fun v h' hqq => ?_)
      obtain ⟨rfl, hqe⟩ := hqq
      rw [hqe]
      by_cases w10 : wm_ B s (sk_ (lt_ B) n s) (mm_sb.getD 10 []) = true
      · rw [if_pos w10]
        refine mm_I ok_Re_word 82 0 164 [some (.ref 31)] [.int 1] (hp_SH ++ dy, g1, r) [] rfl trivial rfl rfl (fun q => False.elim (absurd q (by decide))) (fun _ => ?_)
        refine mm_B ok_Re_word 83 1 (169, [some (.ref 31)], [.int (-20)], (hp_SH ++ dy, g1, r)) [] rfl trivial ?_
        exact mm_ri rfl (mm_at ok_Re_word (i := 84) rfl).1 ⟨Nat.le_refl _, Nat.le_refl _⟩ (⟨by unfold wc_ wo_; rw [if_neg w0, if_neg w1, if_neg w2, if_neg w3, if_neg w4, if_neg w5, if_neg w6, if_neg w7, if_neg w8, if_neg w9, if_pos w10], g1, rfl, hF, h12, h13'⟩)
      rw [if_neg w10]
      refine mm_I ok_Re_word 82 0 164 [some (.ref 31)] [.int 0] (hp_SH ++ dy, g1, r) [] rfl trivial rfl rfl (fun _ => ?_) (fun q => False.elim (q rfl))
      refine mm_B ok_Re_word 85 2 (173, [some (.ref 31)], [.retAddr 11, .ref 31], (hp_SH ++ dy, g1, r)) [] rfl trivial ?_
      refine mm_cV (as := [.retAddr 11]) (st := []) (q := 31) cw_Re_reads lk_Re_97 in_Re_reads sl_Re_reads rfl rfl (mm_at ok_Re_word (i := 87) rfl).1 (ct_Re_reads dy g1 r (i := 11) (by decide) h12 h13' hse he hBs) (by decide) ⟨Nat.le_refl _, Nat.le_refl _⟩ (Nat.le_of_ble_eq_true rfl) (mm_vs_b (b := 77) rfl (hp_len dy)) (fun v h' hqq => ?_)
      obtain ⟨rfl, hqe⟩ := hqq
      rw [hqe]
      by_cases w11 : wm_ B s (sk_ (lt_ B) n s) (mm_sb.getD 11 []) = true
      · rw [if_pos w11]
        refine mm_I ok_Re_word 88 0 176 [some (.ref 31)] [.int 1] (hp_SH ++ dy, g1, r) [] rfl trivial rfl rfl (fun q => False.elim (absurd q (by decide))) (fun _ => ?_)
        refine mm_B ok_Re_word 89 2 (186, [some (.ref 31)], [.int (-21)], (hp_SH ++ dy, g1, r)) [] rfl trivial ?_
        exact mm_ri rfl (mm_at ok_Re_word (i := 92) rfl).1 ⟨Nat.le_refl _, Nat.le_refl _⟩ (⟨by unfold wc_ wo_; rw [if_neg w0, if_neg w1, if_neg w2, if_neg w3, if_neg w4, if_neg w5, if_neg w6, if_neg w7, if_neg w8, if_neg w9, if_neg w10, if_pos w11], g1, rfl, hF, h12, h13'⟩)
      rw [if_neg w11]
      refine mm_I ok_Re_word 88 0 176 [some (.ref 31)] [.int 0] (hp_SH ++ dy, g1, r) [] rfl trivial rfl rfl (fun _ => ?_) (fun q => False.elim (q rfl))
      refine mm_B ok_Re_word 91 1 (186, [some (.ref 31)], [.int (-23)], (hp_SH ++ dy, g1, r)) [] rfl trivial ?_
      exact mm_ri rfl (mm_at ok_Re_word (i := 92) rfl).1 ⟨Nat.le_refl _, Nat.le_refl _⟩ (⟨by unfold wc_ wo_; rw [if_neg w0, if_neg w1, if_neg w2, if_neg w3, if_neg w4, if_neg w5, if_neg w6, if_neg w7, if_neg w8, if_neg w9, if_neg w10, if_neg w11], g1, rfl, hF, h12, h13'⟩)
theorem ct_Re_number (dy : List mm_Sh) (g P : Nat → Nat → Int32) (r : (Nat → Nat → Int64) × Nat × (Nat → Int32)) (hP : nr_ g = P) {B : Nat → Int32} {n : Nat} (hN : P 31 1 = nI n) (hn : n ≤ 160) (hB : ∀ j, j < n → P 32 j = B j) {s : Nat} (hs : s ≤ n) (h2 : g 31 2 = nI s) (h3 : g 31 3 = nI s) : mm_Ct 2 M_Re_number [.ref 31] (hp_SH ++ dy, g, r) 0 0 (fun v h' => v = some (.int (if 4 < sk_ (dg_ B) n s - s then -23 else nv_ B s (sk_ (dg_ B) n s - s))) ∧ ∃ g', h' = (hp_SH ++ dy, g', r) ∧ fr_ f3_ g g' ∧ g' 31 2 = nI s ∧ g' 31 3 = nI (sk_ (dg_ B) n s)) := by
  refine mm_start pl_Re (Nat.le_of_ble_eq_true rfl) ?_
  refine mm_B ok_Re_number 0 2 (2, [some (.ref 31), some (.int 0)], [], (hp_SH ++ dy, g, r)) [] rfl trivial ?_
  exact nu_go dy g P r hP hN hn hB hs h2 (n - s) 0 g (by omega) hs fr_.rf h2 h3 rfl
theorem ct_Re_word (dy : List mm_Sh) (g P : Nat → Nat → Int32) (r : (Nat → Nat → Int64) × Nat × (Nat → Int32)) (hP : nr_ g = P) {B : Nat → Int32} {n : Nat} (hN : P 31 1 = nI n) (hn : n ≤ 160) (hB : ∀ j, j < n → P 32 j = B j) {s : Nat} (hs : s ≤ n) (h2 : g 31 2 = nI s) (h3 : g 31 3 = nI s) : mm_Ct 6 M_Re_word [.ref 31] (hp_SH ++ dy, g, r) 0 0 (fun v h' => v = some (.int (wc_ B s (sk_ (lt_ B) n s))) ∧ ∃ g', h' = (hp_SH ++ dy, g', r) ∧ fr_ f3_ g g' ∧ g' 31 2 = nI s ∧ g' 31 3 = nI (sk_ (lt_ B) n s)) := by
  refine mm_start pl_Re (Nat.le_of_ble_eq_true rfl) ?_
  exact wd_go dy g P r hP hN hn hB (n - s) s g (Nat.le_refl _) (Nat.le_refl _) hs fr_.rf h2 h3 rfl
theorem av_tl (dy : List mm_Sh) (g P : Nat → Nat → Int32) (r : (Nat → Nat → Int64) × Nat × (Nat → Int32)) (hP : nr_ g = P) {B : Nat → Int32} {n : Nat} (hN : P 31 1 = nI n) (hn : n ≤ 160) (hB : ∀ j, j < n → P 32 j = B j) {q : Nat} (hq : q ≤ n) : ∀ (g1 : Nat → Nat → Int32), fr_ f3_ g g1 → g1 31 3 = nI (ts_ B n q) → mm_W 8 M_Re_advance 0 0 (fun v h' => v = none ∧ ∃ g', h' = (hp_SH ++ dy, g', r) ∧ fr_ f3_ g g' ∧ g' 31 2 = nI (ts_ B n q) ∧ g' 31 3 = nI (nx_ B n q) ∧ g' 31 4 = tk_ B n q) 0 0 (52, [some (.ref 31)], [], (hp_SH ++ dy, g1, r)) := by
  intro g1 hF h13
  have hP1 := hF.nr f3_nr hP
  have e1 : g1 31 1 = nI n := by rw [nr_at hP1 31 1 rfl]; exact hN
  have hs : ts_ B n q ≤ n := ts_ub B hq
  unfold tk_ nx_
  generalize ts_ B n q = s at hs h13 ⊢
  refine mm_B ok_Re_advance 26 8 (68, [some (.ref 31)], [.int (g1 31 1), .int (g1 31 3)], (hp_SH ++ dy, mm_up g1 31 2 (g1 31 3), r)) [] rfl trivial ?_
  rw [h13]
  rw [e1]
  have hF2 : fr_ f3_ g (mm_up g1 31 2 (nI s)) := hF.up _ rfl
  have hP2 := hF2.nr f3_nr hP
  by_cases hns : n ≤ s
  · refine mm_I ok_Re_advance 34 0 68 [some (.ref 31)] [.int (nI n), .int (nI s)] (hp_SH ++ dy, mm_up g1 31 2 (nI s), r) [] rfl trivial rfl rfl (fun q => False.elim (nI_nlt hns (by omega) q)) (fun _ => ?_)
    refine mm_B ok_Re_advance 35 4 (158, [some (.ref 31)], [], (hp_SH ++ dy, mm_up (mm_up g1 31 2 (nI s)) 31 4 (-22), r)) [] rfl trivial ?_
    exact mm_r0 rfl (mm_at ok_Re_advance (i := 77) rfl).1 ⟨Nat.le_refl _, Nat.le_refl _⟩ (⟨rfl, _, rfl, hF2.up _ rfl, rfl, by unfold nx0; rw [if_pos hns]; exact h13, by unfold tk0; rw [if_pos hns]; rfl⟩)
  · have eb : g1 32 (nI s).toNatClampNeg = B s := by rw [nI_clamp (by omega), nr_at hP1 32 _ rfl]; exact hB _ (by omega)
    refine mm_I ok_Re_advance 34 0 68 [some (.ref 31)] [.int (nI n), .int (nI s)] (hp_SH ++ dy, mm_up g1 31 2 (nI s), r) [] rfl trivial rfl rfl (fun _ => ?_) (fun q => False.elim (q (nI_lt (show s < n by omega) (by omega))))
    refine mm_B ok_Re_advance 39 5 (89, [some (.ref 31)], [.int (g1 32 ((g1 31 3).toNatClampNeg))], (hp_SH ++ dy, mm_up g1 31 2 (nI s), r)) [vp_in (g1 31 3) 160] rfl (show vp_in (g1 31 3) 160 from (by rw [h13]; exact nI_vi (by omega) (by decide))) ?_
    rw [h13]
    rw [eb]
    refine mm_cS (as := [.int (B s)]) (st := []) cw_Re_isDigit lk_Re_78 sx_Re_isDigit (mm_at ok_Re_advance (i := 44) rfl).1 (ct_Re_isDigit (hp_SH ++ dy, mm_up g1 31 2 (nI s), r) (B s)) (by decide) ⟨by omega, by omega⟩ (Nat.le_of_ble_eq_true rfl) (mm_vs_b (b := 77) rfl (hp_len dy)) (fun v h' hqq => ?_)
    obtain ⟨rfl, hqe⟩ := hqq; rw [hqe]
    by_cases hd : dg_ B s = true
    · have hd1 : f_Re_isDigit (B s) = 1 := of_decide_eq_true hd
      rw [hd1]
      refine mm_I ok_Re_advance 45 0 92 [some (.ref 31)] [.int 1] (hp_SH ++ dy, mm_up g1 31 2 (nI s), r) [] rfl trivial rfl rfl (fun q => False.elim (absurd q (by decide))) (fun _ => ?_)
      refine mm_B ok_Re_advance 46 2 (97, [some (.ref 31)], [.ref 31, .ref 31], (hp_SH ++ dy, mm_up g1 31 2 (nI s), r)) [] rfl trivial ?_
      refine mm_cV (as := []) (st := [.ref 31]) (q := 31) cw_Re_number lk_Re_81 in_Re_number sl_Re_number rfl rfl (mm_at ok_Re_advance (i := 48) rfl).1 (ct_Re_number dy (mm_up g1 31 2 (nI s)) P r hP2 hN hn hB hs rfl h13) (by decide) ⟨by omega, by omega⟩ (Nat.le_of_ble_eq_true rfl) (mm_vs_b (b := 77) rfl (hp_len dy)) (fun v h' hqq => ?_)
      obtain ⟨rfl, g2, hqe, hF3, h22, h23⟩ := hqq; rw [hqe]
      refine mm_B ok_Re_advance 49 2 (158, [some (.ref 31)], [], (hp_SH ++ dy, mm_up g2 31 4 (if 4 < sk_ (dg_ B) n s - s then -23 else nv_ B s (sk_ (dg_ B) n s - s)), r)) [] rfl trivial ?_
      exact mm_r0 rfl (mm_at ok_Re_advance (i := 77) rfl).1 ⟨Nat.le_refl _, Nat.le_refl _⟩ (⟨rfl, _, rfl, (hF2.tr hF3).up _ rfl, h22, by unfold nx0; rw [if_neg hns, if_pos hd]; exact h23, by unfold tk0; rw [if_neg hns, if_pos hd]; rfl⟩)
    · have hd1 : f_Re_isDigit (B s) = 0 := (zo_Re_isDigit _).resolve_right (fun e => hd (decide_eq_true e))
      rw [hd1]
      refine mm_I ok_Re_advance 45 0 92 [some (.ref 31)] [.int 0] (hp_SH ++ dy, mm_up g1 31 2 (nI s), r) [] rfl trivial rfl rfl (fun _ => ?_) (fun q => False.elim (q rfl))
      refine mm_B ok_Re_advance 51 5 (115, [some (.ref 31)], [.int (g1 32 ((g1 31 3).toNatClampNeg))], (hp_SH ++ dy, mm_up g1 31 2 (nI s), r)) [vp_in (g1 31 3) 160] rfl (show vp_in (g1 31 3) 160 from (by rw [h13]; exact nI_vi (by omega) (by decide))) ?_
      rw [h13]
      rw [eb]
      refine mm_cS (as := [.int (B s)]) (st := []) cw_Re_isLetter lk_Re_85 sx_Re_isLetter (mm_at ok_Re_advance (i := 56) rfl).1 (ct_Re_isLetter (hp_SH ++ dy, mm_up g1 31 2 (nI s), r) (B s)) (by decide) ⟨by omega, by omega⟩ (Nat.le_of_ble_eq_true rfl) (mm_vs_b (b := 77) rfl (hp_len dy)) (fun v h' hqq => ?_)
      obtain ⟨rfl, hqe⟩ := hqq; rw [hqe]
      by_cases hl : lt_ B s = true
      · have hl1 : f_Re_isLetter (B s) = 1 := of_decide_eq_true hl
        rw [hl1]
        refine mm_I ok_Re_advance 57 0 118 [some (.ref 31)] [.int 1] (hp_SH ++ dy, mm_up g1 31 2 (nI s), r) [] rfl trivial rfl rfl (fun q => False.elim (absurd q (by decide))) (fun _ => ?_)
        refine mm_B ok_Re_advance 58 2 (123, [some (.ref 31)], [.ref 31, .ref 31], (hp_SH ++ dy, mm_up g1 31 2 (nI s), r)) [] rfl trivial ?_
        refine mm_cV (as := []) (st := [.ref 31]) (q := 31) cw_Re_word lk_Re_88 in_Re_word sl_Re_word rfl rfl (mm_at ok_Re_advance (i := 60) rfl).1 (ct_Re_word dy (mm_up g1 31 2 (nI s)) P r hP2 hN hn hB hs rfl h13) (by decide) ⟨by omega, by omega⟩ (Nat.le_of_ble_eq_true rfl) (mm_vs_b (b := 77) rfl (hp_len dy)) (fun v h' hqq => ?_)
        obtain ⟨rfl, g2, hqe, hF3, h22, h23⟩ := hqq; rw [hqe]
        refine mm_B ok_Re_advance 61 2 (158, [some (.ref 31)], [], (hp_SH ++ dy, mm_up g2 31 4 (wc_ B s (sk_ (lt_ B) n s)), r)) [] rfl trivial ?_
        exact mm_r0 rfl (mm_at ok_Re_advance (i := 77) rfl).1 ⟨Nat.le_refl _, Nat.le_refl _⟩ (⟨rfl, _, rfl, (hF2.tr hF3).up _ rfl, h22, by unfold nx0; rw [if_neg hns, if_neg hd, if_pos hl]; exact h23, by unfold tk0; rw [if_neg hns, if_neg hd, if_pos hl]; rfl⟩)
      · have hl1 : f_Re_isLetter (B s) = 0 := (zo_Re_isLetter _).resolve_right (fun e => hl (decide_eq_true e))
        rw [hl1]
        refine mm_I ok_Re_advance 57 0 118 [some (.ref 31)] [.int 0] (hp_SH ++ dy, mm_up g1 31 2 (nI s), r) [] rfl trivial rfl rfl (fun _ => ?_) (fun q => False.elim (q rfl))
        refine mm_B ok_Re_advance 63 6 (142, [some (.ref 31)], [.int (g1 32 ((g1 31 3).toNatClampNeg)), .ref 31], (hp_SH ++ dy, mm_up g1 31 2 (nI s), r)) [vp_in (g1 31 3) 160] rfl (show vp_in (g1 31 3) 160 from (by rw [h13]; exact nI_vi (by omega) (by decide))) ?_
        rw [h13]
        rw [eb]
        refine mm_cS (as := [.int (B s)]) (st := [.ref 31]) cw_Re_sign lk_Re_91 sx_Re_sign (mm_at ok_Re_advance (i := 69) rfl).1 (ct_Re_sign (hp_SH ++ dy, mm_up g1 31 2 (nI s), r) (B s)) (by decide) ⟨by omega, by omega⟩ (Nat.le_of_ble_eq_true rfl) (mm_vs_b (b := 77) rfl (hp_len dy)) (fun v h' hqq => ?_)
        obtain ⟨rfl, hqe⟩ := hqq; rw [hqe]
        refine mm_B ok_Re_advance 70 7 (158, [some (.ref 31)], [], (hp_SH ++ dy, mm_up (mm_up (mm_up g1 31 2 (nI s)) 31 4 (sg_ (B s))) 31 3 ((g1 31 3) + 1), r)) [] rfl trivial ?_
        rw [h13]
        rw [nI_1]
        exact mm_r0 rfl (mm_at ok_Re_advance (i := 77) rfl).1 ⟨Nat.le_refl _, Nat.le_refl _⟩ (⟨rfl, _, rfl, (hF2.up _ rfl).up _ rfl, rfl, by unfold nx0; rw [if_neg hns, if_neg hd, if_neg hl]; rfl, by unfold tk0; rw [if_neg hns, if_neg hd, if_neg hl]; rfl⟩)
theorem av_go (dy : List mm_Sh) (g P : Nat → Nat → Int32) (r : (Nat → Nat → Int64) × Nat × (Nat → Int32)) (hP : nr_ g = P) {B : Nat → Int32} {n : Nat} (hN : P 31 1 = nI n) (hn : n ≤ 160) (hB : ∀ j, j < n → P 32 j = B j) {q : Nat} (hq : q ≤ n) : ∀ (m p : Nat) (g1 : Nat → Nat → Int32), n - p ≤ m → p ≤ n → fr_ f3_ g g1 → g1 31 3 = nI p → sk_ (bl_ B) n p = ts_ B n q → mm_W 8 M_Re_advance 0 0 (fun v h' => v = none ∧ ∃ g', h' = (hp_SH ++ dy, g', r) ∧ fr_ f3_ g g' ∧ g' 31 2 = nI (ts_ B n q) ∧ g' 31 3 = nI (nx_ B n q) ∧ g' 31 4 = tk_ B n q) 0 0 (0, [some (.ref 31)], [], (hp_SH ++ dy, g1, r)) := by
  intro m
  induction m with
  | zero =>
    intro p g1 hm hp hF h13 hsk
    have hP1 := hF.nr f3_nr hP
    have e1 : g1 31 1 = nI n := by rw [nr_at hP1 31 1 rfl]; exact hN
    refine mm_B ok_Re_advance 0 4 (8, [some (.ref 31)], [.int (g1 31 1), .int (g1 31 3)], (hp_SH ++ dy, g1, r)) [] rfl trivial ?_
    rw [h13]
    rw [e1]
    refine mm_I ok_Re_advance 4 0 8 [some (.ref 31)] [.int (nI n), .int (nI p)] (hp_SH ++ dy, g1, r) [] rfl trivial rfl rfl (fun _ => ?_) (fun q => False.elim (q (nI_le (by omega) (by omega))))
    exact av_tl dy g P r hP hN hn hB hq g1 hF (by rw [h13, ← hsk, sk_ge (by omega)])
  | succ m ih =>
    intro p g1 hm hp hF h13 hsk
    by_cases hkn : p = n
    · exact ih p g1 (by omega) hp hF h13 hsk
    have hP1 := hF.nr f3_nr hP
    have e1 : g1 31 1 = nI n := by rw [nr_at hP1 31 1 rfl]; exact hN
    have eb : g1 32 (nI p).toNatClampNeg = B p := by rw [nI_clamp (by omega), nr_at hP1 32 _ rfl]; exact hB _ (by omega)
    refine mm_B ok_Re_advance 0 4 (8, [some (.ref 31)], [.int (g1 31 1), .int (g1 31 3)], (hp_SH ++ dy, g1, r)) [] rfl trivial ?_
    rw [h13]
    rw [e1]
    refine mm_I ok_Re_advance 4 0 8 [some (.ref 31)] [.int (nI n), .int (nI p)] (hp_SH ++ dy, g1, r) [] rfl trivial rfl rfl (fun q => False.elim (nI_ge (show p < n by omega) (by omega) q)) (fun _ => ?_)
    refine mm_B ok_Re_advance 5 6 (22, [some (.ref 31)], [.int 32, .int (g1 32 ((g1 31 3).toNatClampNeg))], (hp_SH ++ dy, g1, r)) [vp_in (g1 31 3) 160] rfl (show vp_in (g1 31 3) 160 from (by rw [h13]; exact nI_vi (by omega) (by decide))) ?_
    rw [h13]
    rw [eb]
    refine mm_I ok_Re_advance 11 0 22 [some (.ref 31)] [.int 32, .int (B p)] (hp_SH ++ dy, g1, r) [] rfl trivial rfl rfl (fun q1 => ?_) (fun q1 => ?_)
    · refine mm_B ok_Re_advance 19 7 (0, [some (.ref 31)], [], (hp_SH ++ dy, mm_up g1 31 3 ((g1 31 3) + 1), r)) [] rfl trivial ?_
      rw [h13]
      rw [nI_1]
      exact ih (p + 1) (mm_up g1 31 3 (nI (p + 1))) (by omega) (by omega) (hF.up _ rfl) rfl (by have h9 := sk_T (f := bl_ B) (n := n) (p := p) (by unfold bl_; rw [decide_eq_true q1]; rfl) (by omega); rw [← h9]; exact hsk)
    · refine mm_B ok_Re_advance 12 6 (36, [some (.ref 31)], [.int 10, .int (g1 32 ((g1 31 3).toNatClampNeg))], (hp_SH ++ dy, g1, r)) [vp_in (g1 31 3) 160] rfl (show vp_in (g1 31 3) 160 from (by rw [h13]; exact nI_vi (by omega) (by decide))) ?_
      rw [h13]
      rw [eb]
      refine mm_I ok_Re_advance 18 0 36 [some (.ref 31)] [.int 10, .int (B p)] (hp_SH ++ dy, g1, r) [] rfl trivial rfl rfl (fun q2 => ?_) (fun q2 => ?_)
      · exact av_tl dy g P r hP hN hn hB hq g1 hF (by rw [h13, ← hsk, sk_F (by unfold bl_; rw [decide_eq_false q1, decide_eq_false q2]; rfl)])
      · refine mm_B ok_Re_advance 19 7 (0, [some (.ref 31)], [], (hp_SH ++ dy, mm_up g1 31 3 ((g1 31 3) + 1), r)) [] rfl trivial ?_
        rw [h13]
        rw [nI_1]
        exact ih (p + 1) (mm_up g1 31 3 (nI (p + 1))) (by omega) (by omega) (hF.up _ rfl) rfl (by have h9 := sk_T (f := bl_ B) (n := n) (p := p) (by unfold bl_; rw [decide_eq_true q2]; simp) (by omega); rw [← h9]; exact hsk)
theorem ct_Re_advance (dy : List mm_Sh) (g P : Nat → Nat → Int32) (r : (Nat → Nat → Int64) × Nat × (Nat → Int32)) (hP : nr_ g = P) {B : Nat → Int32} {n : Nat} (hN : P 31 1 = nI n) (hn : n ≤ 160) (hB : ∀ j, j < n → P 32 j = B j) {q : Nat} (hq : q ≤ n) (h3 : g 31 3 = nI q) : mm_Ct 8 M_Re_advance [.ref 31] (hp_SH ++ dy, g, r) 0 0 (fun v h' => v = none ∧ ∃ g', h' = (hp_SH ++ dy, g', r) ∧ fr_ f3_ g g' ∧ g' 31 2 = nI (ts_ B n q) ∧ g' 31 3 = nI (nx_ B n q) ∧ g' 31 4 = tk_ B n q) := by
  refine mm_start pl_Re (Nat.le_of_ble_eq_true rfl) ?_
  exact av_go dy g P r hP hN hn hB hq (n - q) q g (Nat.le_refl _) hq fr_.rf h3 rfl

