/-! ===== the model: fail, isSign, isLetter, isWord, opens, name ===== -/
theorem ct_Mo_fail0 (dy : List mm_Sh) (g : Nat → Nat → Int32) (r : (Nat → Nat → Int64) × Nat × (Nat → Int32)) (hb : g 52 29 = 0) : mm_Ct 1 M_Mo_fail [.ref 52] (hp_SH ++ dy, g, r) 0 0 (fun v h' => v = none ∧ h' = (hp_SH ++ dy, mm_up (mm_up g 52 29 1) 52 30 (g 52 26), r)) := by
  refine mm_start pl_Mo (Nat.le_of_ble_eq_true rfl) ?_
  refine mm_B ok_Mo_fail 0 2 (4, [some (.ref 52)], [.int (g 52 29)], (hp_SH ++ dy, g, r)) [] rfl trivial ?_
  rw [hb]
  refine mm_I ok_Mo_fail 2 0 4 [some (.ref 52)] [.int 0] (hp_SH ++ dy, g, r) [] rfl trivial rfl rfl (fun q => False.elim (absurd rfl q)) (fun _ => ?_)
  refine mm_B ok_Mo_fail 3 7 (20, [some (.ref 52)], [], (hp_SH ++ dy, mm_up (mm_up g 52 29 1) 52 30 (g 52 26), r)) [(1 : Int32) = 0 ∨ (1 : Int32) = 1] rfl (show (1 : Int32) = 0 ∨ (1 : Int32) = 1 from (Or.inr rfl)) ?_
  exact mm_r0 rfl (mm_at ok_Mo_fail (i := 10) rfl).1 ⟨Nat.le_refl _, Nat.le_refl _⟩ (⟨rfl, rfl⟩)
theorem ct_Mo_fail1 (dy : List mm_Sh) (g : Nat → Nat → Int32) (r : (Nat → Nat → Int64) × Nat × (Nat → Int32)) (hb : g 52 29 = 1) : mm_Ct 1 M_Mo_fail [.ref 52] (hp_SH ++ dy, g, r) 0 0 (fun v h' => v = none ∧ h' = (hp_SH ++ dy, g, r)) := by
  refine mm_start pl_Mo (Nat.le_of_ble_eq_true rfl) ?_
  refine mm_B ok_Mo_fail 0 2 (4, [some (.ref 52)], [.int (g 52 29)], (hp_SH ++ dy, g, r)) [] rfl trivial ?_
  rw [hb]
  refine mm_I ok_Mo_fail 2 0 4 [some (.ref 52)] [.int 1] (hp_SH ++ dy, g, r) [] rfl trivial rfl rfl (fun _ => ?_) (fun q => False.elim (absurd q (by decide)))
  exact mm_r0 rfl (mm_at ok_Mo_fail (i := 10) rfl).1 ⟨Nat.le_refl _, Nat.le_refl _⟩ (⟨rfl, rfl⟩)
def gs_ (v : Int32) : Int32 := if v = -16 then 40 else if v = -17 then 41 else if v = -14 then 42 else if v = -12 then 43 else if v = -13 then 45 else if v = -18 then 59 else if v = -10 then 60 else 61
theorem gs_sg {x : Int32} (h : ¬ sg_ x = -23) : gs_ (sg_ x) = x := by
  unfold sg_ at h ⊢
  by_cases h0 : x = 40
  · rw [if_pos h0, h0]; decide
  rw [if_neg h0] at h ⊢
  by_cases h1 : x = 41
  · rw [if_pos h1, h1]; decide
  rw [if_neg h1] at h ⊢
  by_cases h2 : x = 42
  · rw [if_pos h2, h2]; decide
  rw [if_neg h2] at h ⊢
  by_cases h3 : x = 43
  · rw [if_pos h3, h3]; decide
  rw [if_neg h3] at h ⊢
  by_cases h4 : x = 45
  · rw [if_pos h4, h4]; decide
  rw [if_neg h4] at h ⊢
  by_cases h5 : x = 59
  · rw [if_pos h5, h5]; decide
  rw [if_neg h5] at h ⊢
  by_cases h6 : x = 60
  · rw [if_pos h6, h6]; decide
  rw [if_neg h6] at h ⊢
  by_cases h7 : x = 61
  · rw [if_pos h7, h7]; decide
  rw [if_neg h7] at h
  exact absurd rfl h
theorem sg_inj {a b : Int32} (h : sg_ a = sg_ b) (ha : ¬ sg_ a = -23) : a = b := by
  rw [← gs_sg ha, h, gs_sg (by rw [← h]; exact ha)]
theorem wc_key {B : Nat → Int32} {s e : Nat} : wc_ B s e = -1 ∨ wc_ B s e = -2 ∨ wc_ B s e = -3 ∨ wc_ B s e = -4 ∨ wc_ B s e = -5 ∨ wc_ B s e = -6 ∨ wc_ B s e = -7 ∨ wc_ B s e = -8 ∨ wc_ B s e = -9 ∨ wc_ B s e = -19 ∨ wc_ B s e = -20 ∨ wc_ B s e = -21 ∨ wc_ B s e = -23 := by

  unfold wc_
  by_cases h0 : wo_ B s e 0 = true
  · rw [if_pos h0]; exact Or.inl rfl
  rw [if_neg h0]
  by_cases h1 : wo_ B s e 1 = true
  · rw [if_pos h1]; exact Or.inr (Or.inl rfl)
  rw [if_neg h1]
  by_cases h2 : wo_ B s e 2 = true
  · rw [if_pos h2]; exact Or.inr (Or.inr (Or.inl rfl))
  rw [if_neg h2]
  by_cases h3 : wo_ B s e 3 = true
  · rw [if_pos h3]; exact Or.inr (Or.inr (Or.inr (Or.inl rfl)))
  rw [if_neg h3]
  by_cases h4 : wo_ B s e 4 = true
  · rw [if_pos h4]; exact Or.inr (Or.inr (Or.inr (Or.inr (Or.inl rfl))))
  rw [if_neg h4]
  by_cases h5 : wo_ B s e 5 = true
  · rw [if_pos h5]; exact Or.inr (Or.inr (Or.inr (Or.inr (Or.inr (Or.inl rfl)))))
  rw [if_neg h5]
  by_cases h6 : wo_ B s e 6 = true
  · rw [if_pos h6]; exact Or.inr (Or.inr (Or.inr (Or.inr (Or.inr (Or.inr (Or.inl rfl))))))
  rw [if_neg h6]
  by_cases h7 : wo_ B s e 7 = true
  · rw [if_pos h7]; exact Or.inr (Or.inr (Or.inr (Or.inr (Or.inr (Or.inr (Or.inr (Or.inl rfl)))))))
  rw [if_neg h7]
  by_cases h8 : wo_ B s e 8 = true
  · rw [if_pos h8]; exact Or.inr (Or.inr (Or.inr (Or.inr (Or.inr (Or.inr (Or.inr (Or.inr (Or.inl rfl))))))))
  rw [if_neg h8]
  by_cases h9 : wo_ B s e 9 = true
  · rw [if_pos h9]; exact Or.inr (Or.inr (Or.inr (Or.inr (Or.inr (Or.inr (Or.inr (Or.inr (Or.inr (Or.inl rfl)))))))))
  rw [if_neg h9]
  by_cases h10 : wo_ B s e 10 = true
  · rw [if_pos h10]; exact Or.inr (Or.inr (Or.inr (Or.inr (Or.inr (Or.inr (Or.inr (Or.inr (Or.inr (Or.inr (Or.inl rfl))))))))))
  rw [if_neg h10]
  by_cases h11 : wo_ B s e 11 = true
  · rw [if_pos h11]; exact Or.inr (Or.inr (Or.inr (Or.inr (Or.inr (Or.inr (Or.inr (Or.inr (Or.inr (Or.inr (Or.inr (Or.inl rfl)))))))))))
  rw [if_neg h11]
  exact Or.inr (Or.inr (Or.inr (Or.inr (Or.inr (Or.inr (Or.inr (Or.inr (Or.inr (Or.inr (Or.inr (Or.inr (rfl))))))))))))
/-- a token of each sort -/
theorem mk_cases (B : Nat → Int32) (n s : Nat) : (mk0 B n s = 0 ∧ tk0 B n s = -22 ∧ n ≤ s) ∨ (mk0 B n s = 4 ∧ tk0 B n s = -23) ∨ (mk0 B n s = 2 ∧ s < n ∧ ∃ m : Nat, tk0 B n s = nI m ∧ m < 10000) ∨ (mk0 B n s = 1 ∧ s < n ∧ dg_ B s = false ∧ lt_ B s = true ∧ tk0 B n s = wc_ B s (sk_ (lt_ B) n s) ∧ mh0 B n s = sk_ (lt_ B) n s) ∨ (mk0 B n s = 3 ∧ s < n ∧ ¬ sg_ (B s) = -23 ∧ tk0 B n s = sg_ (B s)) := by
  unfold mk0 tk0 mh0
  by_cases h1 : n ≤ s
  · simp only [if_pos h1]
    exact Or.inl ⟨trivial, trivial, h1⟩
  · simp only [if_neg h1]
    by_cases h2 : dg_ B s = true
    · simp only [if_pos h2]
      by_cases h3 : 4 < sk_ (dg_ B) n s - s
      · simp only [if_pos h3]
        exact Or.inr (Or.inl ⟨trivial, trivial⟩)
      · simp only [if_neg h3]
        exact Or.inr (Or.inr (Or.inl ⟨trivial, Nat.not_le.mp h1, nv_pos (by omega)⟩))
    · simp only [if_neg h2]
      by_cases h3 : lt_ B s = true
      · simp only [if_pos h3]
        exact Or.inr (Or.inr (Or.inr (Or.inl ⟨trivial, Nat.not_le.mp h1, by simpa using h2, h3, trivial, trivial⟩)))
      · simp only [if_neg h3]
        by_cases h4 : sg_ (B s) = -23
        · simp only [if_pos h4]
          exact Or.inr (Or.inl ⟨trivial, h4⟩)
        · simp only [if_neg h4]
          exact Or.inr (Or.inr (Or.inr (Or.inr ⟨trivial, Nat.not_le.mp h1, h4, trivial⟩)))
theorem nI_ne_neg {m : Nat} {v : Int32} (h : m < 10000) (hv : v < 0) : ¬ nI m = v := fun e => nI_pos (n := m) (by omega) (by rw [e]; exact hv)
theorem tk_sg {B : Nat → Int32} {n s : Nat} {x : Int32} (hx : ¬ sg_ x = -23) (h : tk0 B n s = sg_ x) : mk0 B n s = 3 ∧ B s = x := by
  rcases mk_cases B n s with ⟨h1, h2, -⟩ | ⟨h1, h2⟩ | ⟨h1, -, m, h2, h3⟩ | ⟨h1, -, -, -, h2, -⟩ | ⟨h1, -, h2, h3⟩
  · exfalso
    rw [h2] at h
    rcases sg_key (x := x) with e | e | e | e | e | e | e | e | e <;> rw [e] at h <;> revert h <;> decide
  · rw [h2] at h; exact absurd h.symm hx
  · exfalso
    rw [h2] at h
    rcases sg_key (x := x) with e | e | e | e | e | e | e | e | e <;> rw [e] at h <;> exact nI_ne_neg h3 (by decide) h
  · exfalso
    rw [h2] at h
    rcases sg_key (x := x) with e | e | e | e | e | e | e | e | e <;> rw [e] at h <;> rcases wc_key (B := B) (s := s) (e := sk_ (lt_ B) n s) with w | w | w | w | w | w | w | w | w | w | w | w | w <;> rw [w] at h <;> first | (revert h; decide) | exact hx e
  · exact ⟨h1, sg_inj (h3.symm.trans h) h2⟩
theorem i64_inj {a b : Int32} (h : a.toInt64 = b.toInt64) : a = b := by
  have := congrArg Int64.toInt32 h
  rwa [Int32.toInt32_toInt64, Int32.toInt32_toInt64] at this
theorem ct_Mo_isSign (dy : List mm_Sh) (g : Nat → Nat → Int32) (r : (Nat → Nat → Int64) × Nat × (Nat → Int32)) {n s : Nat} {B : Nat → Int32} (hm : ml_ B n g r s) (hb : g 52 29 = 0) {x : Int32} (hx : ¬ sg_ x = -23) : mm_Ct 1 M_Mo_isSign [.ref 52, .int x] (hp_SH ++ dy, g, r) 0 0 (fun v h' => v = some (.int (if tk0 B n s = sg_ x then 1 else 0)) ∧ h' = (hp_SH ++ dy, g, r)) := by
  obtain ⟨m1, m2, m3, m4, m5⟩ := hm
  refine mm_start pl_Mo (Nat.le_of_ble_eq_true rfl) ?_
  refine mm_B ok_Mo_isSign 0 2 (4, [some (.ref 52), some (.int x)], [.int (g 52 29)], (hp_SH ++ dy, g, r)) [] rfl trivial ?_
  rw [hb]
  refine mm_I ok_Mo_isSign 2 0 4 [some (.ref 52), some (.int x)] [.int 0] (hp_SH ++ dy, g, r) [] rfl trivial rfl rfl (fun q => False.elim (absurd rfl q)) (fun _ => ?_)
  refine mm_B ok_Mo_isSign 3 3 (12, [some (.ref 52), some (.int x)], [.int 3, .int (g 52 25)], (hp_SH ++ dy, g, r)) [] rfl trivial ?_
  rw [m2]
  by_cases h3 : mk0 B n s = 3
  · have hk : tk0 B n s = sg_ (B s) ∧ ¬ sg_ (B s) = -23 := by
      rcases mk_cases B n s with ⟨h1, h2, -⟩ | ⟨h1, h2⟩ | ⟨h1, -, m, h2, h4⟩ | ⟨h1, -, -, -, h2, -⟩ | ⟨h1, -, h2, h4⟩
      · rw [h1] at h3; cases h3
      · rw [h1] at h3; cases h3
      · rw [h1] at h3; cases h3
      · rw [h1] at h3; cases h3
      · exact ⟨h4, h2⟩
    have m5 := m5 h3
    rw [h3]
    refine mm_I ok_Mo_isSign 6 0 12 [some (.ref 52), some (.int x)] [.int 3, .int 3] (hp_SH ++ dy, g, r) [] rfl trivial rfl rfl (fun q => False.elim (absurd rfl q)) (fun _ => ?_)
    refine mm_B ok_Mo_isSign 7 5 (22, [some (.ref 52), some (.int x)], [.int (lg_cmp (r.1 52 27) ((x).toInt64))], (hp_SH ++ dy, g, r)) [] rfl trivial ?_
    rw [m5]
    by_cases hbx : B s = x
    · rw [hbx]
      refine mm_I ok_Mo_isSign 12 0 22 [some (.ref 52), some (.int x)] [.int (lg_cmp x.toInt64 x.toInt64)] (hp_SH ++ dy, g, r) [] rfl trivial rfl rfl (fun q => False.elim (absurd ((lg_cmp_eq _ _).mpr rfl) q)) (fun _ => ?_)
      refine mm_B ok_Mo_isSign 13 2 (30, [some (.ref 52), some (.int x)], [.int 1], (hp_SH ++ dy, g, r)) [] rfl trivial ?_
      exact mm_rz rfl (mm_at ok_Mo_isSign (i := 16) rfl).1 ⟨Nat.le_refl _, Nat.le_refl _⟩ (Or.inr rfl) (⟨by rw [hk.1, hbx, if_pos rfl], rfl⟩)
    · refine mm_I ok_Mo_isSign 12 0 22 [some (.ref 52), some (.int x)] [.int (lg_cmp (B s).toInt64 x.toInt64)] (hp_SH ++ dy, g, r) [] rfl trivial rfl rfl (fun _ => ?_) (fun q => False.elim (absurd (i64_inj ((lg_cmp_eq _ _).mp q)) hbx))
      refine mm_B ok_Mo_isSign 15 1 (30, [some (.ref 52), some (.int x)], [.int 0], (hp_SH ++ dy, g, r)) [] rfl trivial ?_
      exact mm_rz rfl (mm_at ok_Mo_isSign (i := 16) rfl).1 ⟨Nat.le_refl _, Nat.le_refl _⟩ (Or.inl rfl) (⟨by rw [hk.1, if_neg (fun e => hbx (sg_inj e hk.2))], rfl⟩)
  · refine mm_I ok_Mo_isSign 6 0 12 [some (.ref 52), some (.int x)] [.int 3, .int (mk0 B n s)] (hp_SH ++ dy, g, r) [] rfl trivial rfl rfl (fun _ => ?_) (fun q => False.elim (h3 q))
    refine mm_B ok_Mo_isSign 15 1 (30, [some (.ref 52), some (.int x)], [.int 0], (hp_SH ++ dy, g, r)) [] rfl trivial ?_
    exact mm_rz rfl (mm_at ok_Mo_isSign (i := 16) rfl).1 ⟨Nat.le_refl _, Nat.le_refl _⟩ (Or.inl rfl) (⟨by rw [if_neg (fun e => h3 (tk_sg hx e).1)], rfl⟩)
theorem ct_Mo_isSign1 (dy : List mm_Sh) (g : Nat → Nat → Int32) (r : (Nat → Nat → Int64) × Nat × (Nat → Int32)) (hb : g 52 29 = 1) (x : Int32) : mm_Ct 1 M_Mo_isSign [.ref 52, .int x] (hp_SH ++ dy, g, r) 0 0 (fun v h' => v = some (.int 0) ∧ h' = (hp_SH ++ dy, g, r)) := by
  refine mm_start pl_Mo (Nat.le_of_ble_eq_true rfl) ?_
  refine mm_B ok_Mo_isSign 0 2 (4, [some (.ref 52), some (.int x)], [.int (g 52 29)], (hp_SH ++ dy, g, r)) [] rfl trivial ?_
  rw [hb]
  refine mm_I ok_Mo_isSign 2 0 4 [some (.ref 52), some (.int x)] [.int 1] (hp_SH ++ dy, g, r) [] rfl trivial rfl rfl (fun _ => ?_) (fun q => False.elim (absurd q (by decide)))
  refine mm_B ok_Mo_isSign 15 1 (30, [some (.ref 52), some (.int x)], [.int 0], (hp_SH ++ dy, g, r)) [] rfl trivial ?_
  exact mm_rz rfl (mm_at ok_Mo_isSign (i := 16) rfl).1 ⟨Nat.le_refl _, Nat.le_refl _⟩ (Or.inl rfl) (⟨rfl, rfl⟩)
def il_ (B : Nat → Int32) (s e k : Nat) (l : Int32) : Int32 := if s + k < e then (if B (s + k) = l then 1 else 0) else (if l = 0 then 1 else 0)
theorem ct_Mo_isLetter (dy : List mm_Sh) (g : Nat → Nat → Int32) (r : (Nat → Nat → Int64) × Nat × (Nat → Int32)) {t n : Nat} {B sc : Nat → Int32} (hx : mx_ g t n B sc) {s e k : Nat} (h26 : g 52 26 = nI s) (h24 : g 52 24 = nI e) (he : e ≤ n) (hsk : s + k < 1000) (l : Int32) : mm_Ct 2 M_Mo_isLetter [.ref 52, .int (nI k), .int l] (hp_SH ++ dy, g, r) 0 0 (fun v h' => v = some (.int (il_ B s e k l)) ∧ h' = (hp_SH ++ dy, g, r)) := by
  have hn := hx.2.2.2.1
  refine mm_start pl_Mo (Nat.le_of_ble_eq_true rfl) ?_
  refine mm_B ok_Mo_isLetter 0 6 (10, [some (.ref 52), some (.int (nI k)), some (.int l)], [.int (g 52 24), .int ((g 52 26) + (nI k))], (hp_SH ++ dy, g, r)) [] rfl trivial ?_
  rw [h26, h24, nI_add]
  by_cases h : s + k < e
  · have hby : by_ B n (s + k) = B (s + k) := by unfold by_; rw [if_pos (by omega)]
    refine mm_I ok_Mo_isLetter 6 0 10 [some (.ref 52), some (.int (nI k)), some (.int l)] [.int (nI e), .int (nI (s + k))] (hp_SH ++ dy, g, r) [] rfl trivial rfl rfl (fun q => False.elim (nI_ge h (by omega) q)) (fun _ => ?_)
    refine mm_B ok_Mo_isLetter 7 5 (20, [some (.ref 52), some (.int (nI k)), some (.int l)], [.int ((g 52 26) + (nI k)), .ref 52], (hp_SH ++ dy, g, r)) [] rfl trivial ?_
    rw [h26, nI_add]
    refine mm_cV (as := [.int (nI (s + k))]) (st := []) (q := 52) cw_Mo_byteAt lk_Mo_147 in_Mo_byteAt sl_Mo_byteAt rfl rfl (mm_at ok_Mo_isLetter (i := 12) rfl).1 (ct_Mo_byteAt dy g r hx (i := s + k) hsk) (by decide) ⟨by omega, by omega⟩ (Nat.le_of_ble_eq_true rfl) (mm_vs_b (b := 77) rfl (hp_len dy)) (fun v h' hqq => ?_)
    obtain ⟨rfl, hqe⟩ := hqq; rw [hqe]
    refine mm_B ok_Mo_isLetter 13 1 (24, [some (.ref 52), some (.int (nI k)), some (.int l)], [.int l, .int (by_ B n (s + k))], (hp_SH ++ dy, g, r)) [] rfl trivial ?_
    rw [hby]
    refine mm_I ok_Mo_isLetter 14 0 24 [some (.ref 52), some (.int (nI k)), some (.int l)] [.int l, .int (B (s + k))] (hp_SH ++ dy, g, r) [] rfl trivial rfl rfl (fun q => ?_) (fun q => ?_)
    · refine mm_B ok_Mo_isLetter 17 2 (44, [some (.ref 52), some (.int (nI k)), some (.int l)], [.int 0], (hp_SH ++ dy, g, r)) [] rfl trivial ?_
      exact mm_rz rfl (mm_at ok_Mo_isLetter (i := 24) rfl).1 ⟨Nat.le_refl _, Nat.le_refl _⟩ (Or.inl rfl) (⟨by unfold il_; rw [if_pos h, if_neg q], rfl⟩)
    · refine mm_B ok_Mo_isLetter 15 2 (44, [some (.ref 52), some (.int (nI k)), some (.int l)], [.int 1], (hp_SH ++ dy, g, r)) [] rfl trivial ?_
      exact mm_rz rfl (mm_at ok_Mo_isLetter (i := 24) rfl).1 ⟨Nat.le_refl _, Nat.le_refl _⟩ (Or.inr rfl) (⟨by unfold il_; rw [if_pos h, if_pos q], rfl⟩)
  · refine mm_I ok_Mo_isLetter 6 0 10 [some (.ref 52), some (.int (nI k)), some (.int l)] [.int (nI e), .int (nI (s + k))] (hp_SH ++ dy, g, r) [] rfl trivial rfl rfl (fun _ => ?_) (fun q => False.elim (q (nI_le (by omega) (by omega))))
    refine mm_I ok_Mo_isLetter 19 1 36 [some (.ref 52), some (.int (nI k)), some (.int l)] [.int l] (hp_SH ++ dy, g, r) [] rfl trivial rfl rfl (fun q => ?_) (fun q => ?_)
    · refine mm_B ok_Mo_isLetter 23 1 (44, [some (.ref 52), some (.int (nI k)), some (.int l)], [.int 0], (hp_SH ++ dy, g, r)) [] rfl trivial ?_
      exact mm_rz rfl (mm_at ok_Mo_isLetter (i := 24) rfl).1 ⟨Nat.le_refl _, Nat.le_refl _⟩ (Or.inl rfl) (⟨by unfold il_; rw [if_neg h, if_neg q], rfl⟩)
    · refine mm_B ok_Mo_isLetter 21 2 (44, [some (.ref 52), some (.int (nI k)), some (.int l)], [.int 1], (hp_SH ++ dy, g, r)) [] rfl trivial ?_
      exact mm_rz rfl (mm_at ok_Mo_isLetter (i := 24) rfl).1 ⟨Nat.le_refl _, Nat.le_refl _⟩ (Or.inr rfl) (⟨by unfold il_; rw [if_neg h, if_pos q], rfl⟩)
theorem we_iff {B : Nat → Int32} : ∀ (w : List Int32) (s : Nat), we_ B w s = true ↔ ∀ k, k < w.length → B (s + k) = w.getD k 0
  | [], s => ⟨fun _ k hk => absurd hk (Nat.not_lt_zero k), fun _ => rfl⟩
  | a :: w, s => by
    simp only [we_, Bool.and_eq_true, decide_eq_true_eq]
    rw [we_iff w (s + 1)]
    constructor
    · rintro ⟨h1, h2⟩ k hk
      cases k with
      | zero => exact h1
      | succ k =>
        have := h2 k (by simp only [List.length_cons] at hk; omega)
        rw [show s + 1 + k = s + (k + 1) by omega] at this
        simpa using this
    · intro h
      refine ⟨by have := h 0 (by simp); simpa using this, fun k hk => ?_⟩
      have := h (k + 1) (by simp only [List.length_cons]; omega)
      rw [show s + 1 + k = s + (k + 1) by omega]
      simpa using this
theorem sb_ok : ∀ i, i < 12 → ∀ k, k < (mm_sb.getD i []).length → (mm_sb.getD i []).getD k 0 ≠ 0 := by decide +kernel
theorem sb_len : ∀ i, i < 12 → 0 < (mm_sb.getD i []).length ∧ (mm_sb.getD i []).length ≤ 6 := by decide +kernel
theorem wm_il {B : Nat → Int32} {s e i : Nat} (hse : s ≤ e) (h : wm_ B s e (mm_sb.getD i []) = true) (k : Nat) : il_ B s e k ((mm_sb.getD i []).getD k 0) = 1 := by
  unfold wm_ at h
  have h1 := of_decide_eq_true ((Bool.and_eq_true _ _).mp h).1
  have h2 := (we_iff _ _).mp ((Bool.and_eq_true _ _).mp h).2
  unfold il_
  by_cases hk : s + k < e
  · rw [if_pos hk, if_pos (h2 k (by omega))]
  · rw [if_neg hk, if_pos (by rw [List.getD_eq_getElem?_getD, List.getElem?_eq_none (by omega)]; rfl)]
theorem il_wm {B : Nat → Int32} {s e i : Nat} (hi : i < 12) (hse : s ≤ e) (he : e ≤ s + 8) (hB : ∀ j, s ≤ j → j < e → lt_ B j = true) (h : ∀ k, k < 8 → il_ B s e k ((mm_sb.getD i []).getD k 0) = 1) : wm_ B s e (mm_sb.getD i []) = true := by
  have hlen := sb_len i hi
  have hne := sb_ok i hi
  generalize mm_sb.getD i [] = w at hlen hne h ⊢
  have hB0 : ∀ j, s ≤ j → j < e → B j ≠ 0 := fun j h1 h2 h3 => by
    have := of_decide_eq_true (hB j h1 h2)
    rw [h3] at this
    cases this
  have hl : e - s = w.length := by
    rcases Nat.lt_trichotomy (e - s) w.length with h1 | h1 | h1
    · exfalso
      have h2 := h (e - s) (by omega)
      unfold il_ at h2
      rw [if_neg (by omega)] at h2
      split at h2
      · rename_i h3
        exact hne (e - s) h1 h3
      · cases h2
    · exact h1
    · exfalso
      have h2 := h w.length (by omega)
      unfold il_ at h2
      rw [if_pos (by omega)] at h2
      split at h2
      · rename_i h3
        rw [List.getD_eq_getElem?_getD, List.getElem?_eq_none (Nat.le_refl _)] at h3
        exact hB0 _ (by omega) (by omega) h3
      · cases h2
  unfold wm_
  rw [decide_eq_true hl, Bool.true_and]
  refine (we_iff _ _).mpr (fun k hk => ?_)
  have h2 := h k (by omega)
  unfold il_ at h2
  rw [if_pos (by omega)] at h2
  split at h2
  · assumption
  · cases h2
theorem il_zo {B : Nat → Int32} {s e k : Nat} {l : Int32} (h : ¬ il_ B s e k l = 1) : il_ B s e k l = 0 := by
  unfold il_ at h ⊢
  by_cases h1 : s + k < e
  · rw [if_pos h1] at h ⊢
    by_cases h2 : B (s + k) = l
    · rw [if_pos h2] at h; exact absurd rfl h
    · rw [if_neg h2]
  · rw [if_neg h1] at h ⊢
    by_cases h2 : l = 0
    · rw [if_pos h2] at h; exact absurd rfl h
    · rw [if_neg h2]
def kc_ (i : Nat) : Int32 := ([-1, -2, -3, -4, -5, -6, -7, -8, -9, -19, -20, -21] : List Int32).getD i 0
theorem sb_inj : ∀ i, i < 12 → ∀ j, j < 12 → i ≠ j → mm_sb.getD i [] ≠ mm_sb.getD j [] := by decide +kernel
theorem wm_eq {B : Nat → Int32} {s e : Nat} {w v : List Int32} (h1 : wm_ B s e w = true) (h2 : wm_ B s e v = true) : w = v := by
  unfold wm_ at h1 h2
  have a1 := of_decide_eq_true ((Bool.and_eq_true _ _).mp h1).1
  have a2 := of_decide_eq_true ((Bool.and_eq_true _ _).mp h2).1
  have b1 := (we_iff _ _).mp ((Bool.and_eq_true _ _).mp h1).2
  have b2 := (we_iff _ _).mp ((Bool.and_eq_true _ _).mp h2).2
  apply List.ext_getElem?
  intro k
  by_cases hk : k < w.length
  · have c1 := b1 k hk
    have c2 := b2 k (by omega)
    rw [c1] at c2
    rw [List.getD_eq_getElem?_getD, List.getD_eq_getElem?_getD, List.getElem?_eq_getElem hk, List.getElem?_eq_getElem (show k < v.length by omega)] at c2
    rw [List.getElem?_eq_getElem hk, List.getElem?_eq_getElem (show k < v.length by omega)]
    exact congrArg some c2
  · rw [List.getElem?_eq_none (by omega), List.getElem?_eq_none (by omega)]
theorem wc_T {B : Nat → Int32} {s e : Nat} : ∀ i, i < 12 → wo_ B s e i = true → wc_ B s e = kc_ i := by
  intro i hi h
  have hno : ∀ j, j < 12 → j ≠ i → ¬ wo_ B s e j = true := fun j hj hji h' => sb_inj j hj i hi hji (wm_eq h' h)
  unfold wc_
  match i, hi with

  | 0, _ => rw [if_pos h]; rfl
  | 1, _ => rw [if_neg (hno 0 (by decide) (by decide)), if_pos h]; rfl
  | 2, _ => rw [if_neg (hno 0 (by decide) (by decide)), if_neg (hno 1 (by decide) (by decide)), if_pos h]; rfl
  | 3, _ => rw [if_neg (hno 0 (by decide) (by decide)), if_neg (hno 1 (by decide) (by decide)), if_neg (hno 2 (by decide) (by decide)), if_pos h]; rfl
  | 4, _ => rw [if_neg (hno 0 (by decide) (by decide)), if_neg (hno 1 (by decide) (by decide)), if_neg (hno 2 (by decide) (by decide)), if_neg (hno 3 (by decide) (by decide)), if_pos h]; rfl
  | 5, _ => rw [if_neg (hno 0 (by decide) (by decide)), if_neg (hno 1 (by decide) (by decide)), if_neg (hno 2 (by decide) (by decide)), if_neg (hno 3 (by decide) (by decide)), if_neg (hno 4 (by decide) (by decide)), if_pos h]; rfl
  | 6, _ => rw [if_neg (hno 0 (by decide) (by decide)), if_neg (hno 1 (by decide) (by decide)), if_neg (hno 2 (by decide) (by decide)), if_neg (hno 3 (by decide) (by decide)), if_neg (hno 4 (by decide) (by decide)), if_neg (hno 5 (by decide) (by decide)), if_pos h]; rfl
  | 7, _ => rw [if_neg (hno 0 (by decide) (by decide)), if_neg (hno 1 (by decide) (by decide)), if_neg (hno 2 (by decide) (by decide)), if_neg (hno 3 (by decide) (by decide)), if_neg (hno 4 (by decide) (by decide)), if_neg (hno 5 (by decide) (by decide)), if_neg (hno 6 (by decide) (by decide)), if_pos h]; rfl
  | 8, _ => rw [if_neg (hno 0 (by decide) (by decide)), if_neg (hno 1 (by decide) (by decide)), if_neg (hno 2 (by decide) (by decide)), if_neg (hno 3 (by decide) (by decide)), if_neg (hno 4 (by decide) (by decide)), if_neg (hno 5 (by decide) (by decide)), if_neg (hno 6 (by decide) (by decide)), if_neg (hno 7 (by decide) (by decide)), if_pos h]; rfl
  | 9, _ => rw [if_neg (hno 0 (by decide) (by decide)), if_neg (hno 1 (by decide) (by decide)), if_neg (hno 2 (by decide) (by decide)), if_neg (hno 3 (by decide) (by decide)), if_neg (hno 4 (by decide) (by decide)), if_neg (hno 5 (by decide) (by decide)), if_neg (hno 6 (by decide) (by decide)), if_neg (hno 7 (by decide) (by decide)), if_neg (hno 8 (by decide) (by decide)), if_pos h]; rfl
  | 10, _ => rw [if_neg (hno 0 (by decide) (by decide)), if_neg (hno 1 (by decide) (by decide)), if_neg (hno 2 (by decide) (by decide)), if_neg (hno 3 (by decide) (by decide)), if_neg (hno 4 (by decide) (by decide)), if_neg (hno 5 (by decide) (by decide)), if_neg (hno 6 (by decide) (by decide)), if_neg (hno 7 (by decide) (by decide)), if_neg (hno 8 (by decide) (by decide)), if_neg (hno 9 (by decide) (by decide)), if_pos h]; rfl
  | 11, _ => rw [if_neg (hno 0 (by decide) (by decide)), if_neg (hno 1 (by decide) (by decide)), if_neg (hno 2 (by decide) (by decide)), if_neg (hno 3 (by decide) (by decide)), if_neg (hno 4 (by decide) (by decide)), if_neg (hno 5 (by decide) (by decide)), if_neg (hno 6 (by decide) (by decide)), if_neg (hno 7 (by decide) (by decide)), if_neg (hno 8 (by decide) (by decide)), if_neg (hno 9 (by decide) (by decide)), if_neg (hno 10 (by decide) (by decide)), if_pos h]; rfl
  | k + 12, hi => omega
theorem wc_F {B : Nat → Int32} {s e : Nat} : ∀ i, i < 12 → ¬ wo_ B s e i = true → ¬ wc_ B s e = kc_ i := by
  intro i hi h hc
  have hd : ∀ i, i < 12 → ∀ j, j < 12 → j ≠ i → ¬ kc_ j = kc_ i := by decide
  have hne : ∀ i, i < 12 → ¬ (-23 : Int32) = kc_ i := by decide
  by_cases hex : ∃ j, j < 12 ∧ wo_ B s e j = true
  · obtain ⟨j, hj, hw⟩ := hex
    have h1 := wc_T j hj hw
    by_cases hji : j = i
    · subst hji; exact h hw
    · exact hd i hi j hj hji (h1.symm.trans hc)
  · have hn : ∀ j, j < 12 → ¬ wo_ B s e j = true := fun j hj hw => hex ⟨j, hj, hw⟩
    have h23 : wc_ B s e = -23 := by
      unfold wc_
      rw [if_neg (hn 0 (by decide)), if_neg (hn 1 (by decide)), if_neg (hn 2 (by decide)), if_neg (hn 3 (by decide)), if_neg (hn 4 (by decide)), if_neg (hn 5 (by decide)), if_neg (hn 6 (by decide)), if_neg (hn 7 (by decide)), if_neg (hn 8 (by decide)), if_neg (hn 9 (by decide)), if_neg (hn 10 (by decide)), if_neg (hn 11 (by decide))]
    exact hne i hi (h23.symm.trans hc)
theorem tk_wd {B : Nat → Int32} {n s i : Nat} (hi : i < 12) (h : tk0 B n s = kc_ i) : mk0 B n s = 1 := by
  rcases mk_cases B n s with ⟨h1, h2, -⟩ | ⟨h1, h2⟩ | ⟨h1, -, m, h2, h3⟩ | ⟨h1, -, -, -, h2, -⟩ | ⟨h1, -, h2, h3⟩
  · exfalso
    rw [h2] at h
    have : ∀ i, i < 12 → ¬ (-22 : Int32) = kc_ i := by decide
    exact this i hi h
  · exfalso
    rw [h2] at h
    have : ∀ i, i < 12 → ¬ (-23 : Int32) = kc_ i := by decide
    exact this i hi h
  · exfalso
    rw [h2] at h
    have : ∀ i, i < 12 → kc_ i < 0 := by decide
    exact nI_ne_neg h3 (this i hi) h
  · exact h1
  · exfalso
    rw [h3] at h
    have : ∀ i, i < 12 → ¬ kc_ i = -16 ∧ ¬ kc_ i = -17 ∧ ¬ kc_ i = -14 ∧ ¬ kc_ i = -12 ∧ ¬ kc_ i = -13 ∧ ¬ kc_ i = -18 ∧ ¬ kc_ i = -10 ∧ ¬ kc_ i = -11 := by decide
    obtain ⟨a1, a2, a3, a4, a5, a6, a7, a8⟩ := this i hi
    rcases sg_key (x := B s) with e | e | e | e | e | e | e | e | e
    · exact a1 (h.symm.trans e)
    · exact a2 (h.symm.trans e)
    · exact a3 (h.symm.trans e)
    · exact a4 (h.symm.trans e)
    · exact a5 (h.symm.trans e)
    · exact a6 (h.symm.trans e)
    · exact a7 (h.symm.trans e)
    · exact a8 (h.symm.trans e)
    · exact h2 e
abbrev wl_ (i k : Nat) : Int32 := (mm_sb.getD i []).getD k 0
theorem ct_Mo_isWord (dy : List mm_Sh) (g : Nat → Nat → Int32) (r : (Nat → Nat → Int64) × Nat × (Nat → Int32)) {t n s : Nat} {B sc : Nat → Int32} (hx : mx_ g t n B sc) (hm : ml_ B n g r s) (hb : g 52 29 = 0) {i : Nat} (hi : i < 12) : mm_Ct 3 M_Mo_isWord [.ref 52, .int (wl_ i 0), .int (wl_ i 1), .int (wl_ i 2), .int (wl_ i 3), .int (wl_ i 4), .int (wl_ i 5), .int (wl_ i 6), .int (wl_ i 7)] (hp_SH ++ dy, g, r) 0 0 (fun v h' => v = some (.int (if tk0 B n s = kc_ i then 1 else 0)) ∧ h' = (hp_SH ++ dy, g, r)) := by
  obtain ⟨m1, m2, m3, m4, m5⟩ := hm
  have hn := hx.2.2.2.1
  refine mm_start pl_Mo (Nat.le_of_ble_eq_true rfl) ?_
  refine mm_B ok_Mo_isWord 0 2 (4, [some (.ref 52), some (.int (wl_ i 0)), some (.int (wl_ i 1)), some (.int (wl_ i 2)), some (.int (wl_ i 3)), some (.int (wl_ i 4)), some (.int (wl_ i 5)), some (.int (wl_ i 6)), some (.int (wl_ i 7))], [.int (g 52 29)], (hp_SH ++ dy, g, r)) [] rfl trivial ?_
  rw [hb]
  refine mm_I ok_Mo_isWord 2 0 4 [some (.ref 52), some (.int (wl_ i 0)), some (.int (wl_ i 1)), some (.int (wl_ i 2)), some (.int (wl_ i 3)), some (.int (wl_ i 4)), some (.int (wl_ i 5)), some (.int (wl_ i 6)), some (.int (wl_ i 7))] [.int 0] (hp_SH ++ dy, g, r) [] rfl trivial rfl rfl (fun q => False.elim (absurd rfl q)) (fun _ => ?_)
  refine mm_B ok_Mo_isWord 3 3 (12, [some (.ref 52), some (.int (wl_ i 0)), some (.int (wl_ i 1)), some (.int (wl_ i 2)), some (.int (wl_ i 3)), some (.int (wl_ i 4)), some (.int (wl_ i 5)), some (.int (wl_ i 6)), some (.int (wl_ i 7))], [.int 1, .int (g 52 25)], (hp_SH ++ dy, g, r)) [] rfl trivial ?_
  rw [m2]
  by_cases h1 : mk0 B n s = 1
  · have hk : s < n ∧ dg_ B s = false ∧ lt_ B s = true ∧ tk0 B n s = wc_ B s (sk_ (lt_ B) n s) ∧ mh0 B n s = sk_ (lt_ B) n s := by
      rcases mk_cases B n s with ⟨h2, -⟩ | ⟨h2, -⟩ | ⟨h2, -⟩ | ⟨h2, h3⟩ | ⟨h2, -⟩
      · rw [h2] at h1; cases h1
      · rw [h2] at h1; cases h1
      · rw [h2] at h1; cases h1
      · exact h3
      · rw [h2] at h1; cases h1
    obtain ⟨hsn, hdg, hlt, htk, hmh⟩ := hk
    rw [hmh] at m1
    rw [htk]
    have hall : ∀ j, s ≤ j → j < sk_ (lt_ B) n s → lt_ B j = true := fun j => sk_all
    have hse := sk_le (lt_ B) n s
    have hen := sk_ub (lt_ B) (Nat.le_of_lt hsn)
    generalize sk_ (lt_ B) n s = e at m1 hall hse hen ⊢
    have e8 : nI s + 8 = nI (s + 8) := nI_add s 8
    rw [h1]
    refine mm_I ok_Mo_isWord 6 0 12 [some (.ref 52), some (.int (wl_ i 0)), some (.int (wl_ i 1)), some (.int (wl_ i 2)), some (.int (wl_ i 3)), some (.int (wl_ i 4)), some (.int (wl_ i 5)), some (.int (wl_ i 6)), some (.int (wl_ i 7))] [.int 1, .int 1] (hp_SH ++ dy, g, r) [] rfl trivial rfl rfl (fun q => False.elim (absurd rfl q)) (fun _ => ?_)
    refine mm_B ok_Mo_isWord 7 6 (26, [some (.ref 52), some (.int (wl_ i 0)), some (.int (wl_ i 1)), some (.int (wl_ i 2)), some (.int (wl_ i 3)), some (.int (wl_ i 4)), some (.int (wl_ i 5)), some (.int (wl_ i 6)), some (.int (wl_ i 7))], [.int ((g 52 26) + 8), .int (g 52 24)], (hp_SH ++ dy, g, r)) [] rfl trivial ?_
    rw [m1, m3, e8]
    by_cases h8 : e ≤ s + 8
    · refine mm_I ok_Mo_isWord 13 0 26 [some (.ref 52), some (.int (wl_ i 0)), some (.int (wl_ i 1)), some (.int (wl_ i 2)), some (.int (wl_ i 3)), some (.int (wl_ i 4)), some (.int (wl_ i 5)), some (.int (wl_ i 6)), some (.int (wl_ i 7))] [.int (nI (s + 8)), .int (nI e)] (hp_SH ++ dy, g, r) [] rfl trivial rfl rfl (fun q => False.elim (absurd q (Int32.not_lt.mpr (nI_le h8 (by omega))))) (fun _ => ?_)
      refine mm_B ok_Mo_isWord 14 3 (32, [some (.ref 52), some (.int (wl_ i 0)), some (.int (wl_ i 1)), some (.int (wl_ i 2)), some (.int (wl_ i 3)), some (.int (wl_ i 4)), some (.int (wl_ i 5)), some (.int (wl_ i 6)), some (.int (wl_ i 7))], [.int (wl_ i 0), .int 0, .ref 52], (hp_SH ++ dy, g, r)) [] rfl trivial ?_
      refine mm_cV (as := [.int 0, .int (wl_ i 0)]) (st := []) (q := 52) cw_Mo_isLetter lk_Mo_177 in_Mo_isLetter sl_Mo_isLetter rfl rfl (mm_at ok_Mo_isWord (i := 17) rfl).1 (ct_Mo_isLetter dy g r hx (k := 0) m3 m1 hen (by omega) (wl_ i 0)) (by decide) ⟨by omega, by omega⟩ (Nat.le_of_ble_eq_true rfl) (mm_vs_b (b := 77) rfl (hp_len dy)) (fun v h' hqq => ?_)
      obtain ⟨rfl, hqe⟩ := hqq; rw [hqe]
      by_cases l0 : il_ B s e 0 (wl_ i 0) = 1
      rotate_left
      · have z9 := il_zo l0
        rw [z9]
        refine mm_I ok_Mo_isWord 18 0 35 [some (.ref 52), some (.int (wl_ i 0)), some (.int (wl_ i 1)), some (.int (wl_ i 2)), some (.int (wl_ i 3)), some (.int (wl_ i 4)), some (.int (wl_ i 5)), some (.int (wl_ i 6)), some (.int (wl_ i 7))] [.int 0] (hp_SH ++ dy, g, r) [] rfl trivial rfl rfl (fun _ => ?_) (fun q => False.elim (q rfl))
        refine mm_B ok_Mo_isWord 56 1 (113, [some (.ref 52), some (.int (wl_ i 0)), some (.int (wl_ i 1)), some (.int (wl_ i 2)), some (.int (wl_ i 3)), some (.int (wl_ i 4)), some (.int (wl_ i 5)), some (.int (wl_ i 6)), some (.int (wl_ i 7))], [.int 0], (hp_SH ++ dy, g, r)) [] rfl trivial ?_
        exact mm_rz rfl (mm_at ok_Mo_isWord (i := 57) rfl).1 ⟨Nat.le_refl _, Nat.le_refl _⟩ (Or.inl rfl) (⟨by rw [if_neg (wc_F i hi (fun hw => l0 (wm_il hse hw 0)))], rfl⟩)
      rw [l0]
      refine mm_I ok_Mo_isWord 18 0 35 [some (.ref 52), some (.int (wl_ i 0)), some (.int (wl_ i 1)), some (.int (wl_ i 2)), some (.int (wl_ i 3)), some (.int (wl_ i 4)), some (.int (wl_ i 5)), some (.int (wl_ i 6)), some (.int (wl_ i 7))] [.int 1] (hp_SH ++ dy, g, r) [] rfl trivial rfl rfl (fun q => False.elim (absurd q (by decide))) (fun _ => ?_)
      refine mm_B ok_Mo_isWord 19 3 (41, [some (.ref 52), some (.int (wl_ i 0)), some (.int (wl_ i 1)), some (.int (wl_ i 2)), some (.int (wl_ i 3)), some (.int (wl_ i 4)), some (.int (wl_ i 5)), some (.int (wl_ i 6)), some (.int (wl_ i 7))], [.int (wl_ i 1), .int 1, .ref 52], (hp_SH ++ dy, g, r)) [] rfl trivial ?_
      refine mm_cV (as := [.int 1, .int (wl_ i 1)]) (st := []) (q := 52) cw_Mo_isLetter lk_Mo_177 in_Mo_isLetter sl_Mo_isLetter rfl rfl (mm_at ok_Mo_isWord (i := 22) rfl).1 (ct_Mo_isLetter dy g r hx (k := 1) m3 m1 hen (by omega) (wl_ i 1)) (by decide) ⟨by omega, by omega⟩ (Nat.le_of_ble_eq_true rfl) (mm_vs_b (b := 77) rfl (hp_len dy)) (fun v h' hqq => ?_)
      obtain ⟨rfl, hqe⟩ := hqq; rw [hqe]
      by_cases l1 : il_ B s e 1 (wl_ i 1) = 1
      rotate_left
      · have z9 := il_zo l1
        rw [z9]
        refine mm_I ok_Mo_isWord 23 0 44 [some (.ref 52), some (.int (wl_ i 0)), some (.int (wl_ i 1)), some (.int (wl_ i 2)), some (.int (wl_ i 3)), some (.int (wl_ i 4)), some (.int (wl_ i 5)), some (.int (wl_ i 6)), some (.int (wl_ i 7))] [.int 0] (hp_SH ++ dy, g, r) [] rfl trivial rfl rfl (fun _ => ?_) (fun q => False.elim (q rfl))
        refine mm_B ok_Mo_isWord 56 1 (113, [some (.ref 52), some (.int (wl_ i 0)), some (.int (wl_ i 1)), some (.int (wl_ i 2)), some (.int (wl_ i 3)), some (.int (wl_ i 4)), some (.int (wl_ i 5)), some (.int (wl_ i 6)), some (.int (wl_ i 7))], [.int 0], (hp_SH ++ dy, g, r)) [] rfl trivial ?_
        exact mm_rz rfl (mm_at ok_Mo_isWord (i := 57) rfl).1 ⟨Nat.le_refl _, Nat.le_refl _⟩ (Or.inl rfl) (⟨by rw [if_neg (wc_F i hi (fun hw => l1 (wm_il hse hw 1)))], rfl⟩)
      rw [l1]
      refine mm_I ok_Mo_isWord 23 0 44 [some (.ref 52), some (.int (wl_ i 0)), some (.int (wl_ i 1)), some (.int (wl_ i 2)), some (.int (wl_ i 3)), some (.int (wl_ i 4)), some (.int (wl_ i 5)), some (.int (wl_ i 6)), some (.int (wl_ i 7))] [.int 1] (hp_SH ++ dy, g, r) [] rfl trivial rfl rfl (fun q => False.elim (absurd q (by decide))) (fun _ => ?_)
      refine mm_B ok_Mo_isWord 24 3 (50, [some (.ref 52), some (.int (wl_ i 0)), some (.int (wl_ i 1)), some (.int (wl_ i 2)), some (.int (wl_ i 3)), some (.int (wl_ i 4)), some (.int (wl_ i 5)), some (.int (wl_ i 6)), some (.int (wl_ i 7))], [.int (wl_ i 2), .int 2, .ref 52], (hp_SH ++ dy, g, r)) [] rfl trivial ?_
      refine mm_cV (as := [.int 2, .int (wl_ i 2)]) (st := []) (q := 52) cw_Mo_isLetter lk_Mo_177 in_Mo_isLetter sl_Mo_isLetter rfl rfl (mm_at ok_Mo_isWord (i := 27) rfl).1 (ct_Mo_isLetter dy g r hx (k := 2) m3 m1 hen (by omega) (wl_ i 2)) (by decide) ⟨by omega, by omega⟩ (Nat.le_of_ble_eq_true rfl) (mm_vs_b (b := 77) rfl (hp_len dy)) (fun v h' hqq => ?_)
      obtain ⟨rfl, hqe⟩ := hqq; rw [hqe]
      by_cases l2 : il_ B s e 2 (wl_ i 2) = 1
      rotate_left
      · have z9 := il_zo l2
        rw [z9]
        refine mm_I ok_Mo_isWord 28 0 53 [some (.ref 52), some (.int (wl_ i 0)), some (.int (wl_ i 1)), some (.int (wl_ i 2)), some (.int (wl_ i 3)), some (.int (wl_ i 4)), some (.int (wl_ i 5)), some (.int (wl_ i 6)), some (.int (wl_ i 7))] [.int 0] (hp_SH ++ dy, g, r) [] rfl trivial rfl rfl (fun _ => ?_) (fun q => False.elim (q rfl))
        refine mm_B ok_Mo_isWord 56 1 (113, [some (.ref 52), some (.int (wl_ i 0)), some (.int (wl_ i 1)), some (.int (wl_ i 2)), some (.int (wl_ i 3)), some (.int (wl_ i 4)), some (.int (wl_ i 5)), some (.int (wl_ i 6)), some (.int (wl_ i 7))], [.int 0], (hp_SH ++ dy, g, r)) [] rfl trivial ?_
        exact mm_rz rfl (mm_at ok_Mo_isWord (i := 57) rfl).1 ⟨Nat.le_refl _, Nat.le_refl _⟩ (Or.inl rfl) (⟨by rw [if_neg (wc_F i hi (fun hw => l2 (wm_il hse hw 2)))], rfl⟩)
      rw [l2]
      refine mm_I ok_Mo_isWord 28 0 53 [some (.ref 52), some (.int (wl_ i 0)), some (.int (wl_ i 1)), some (.int (wl_ i 2)), some (.int (wl_ i 3)), some (.int (wl_ i 4)), some (.int (wl_ i 5)), some (.int (wl_ i 6)), some (.int (wl_ i 7))] [.int 1] (hp_SH ++ dy, g, r) [] rfl trivial rfl rfl (fun q => False.elim (absurd q (by decide))) (fun _ => ?_)
      refine mm_B ok_Mo_isWord 29 3 (60, [some (.ref 52), some (.int (wl_ i 0)), some (.int (wl_ i 1)), some (.int (wl_ i 2)), some (.int (wl_ i 3)), some (.int (wl_ i 4)), some (.int (wl_ i 5)), some (.int (wl_ i 6)), some (.int (wl_ i 7))], [.int (wl_ i 3), .int 3, .ref 52], (hp_SH ++ dy, g, r)) [] rfl trivial ?_
      refine mm_cV (as := [.int 3, .int (wl_ i 3)]) (st := []) (q := 52) cw_Mo_isLetter lk_Mo_177 in_Mo_isLetter sl_Mo_isLetter rfl rfl (mm_at ok_Mo_isWord (i := 32) rfl).1 (ct_Mo_isLetter dy g r hx (k := 3) m3 m1 hen (by omega) (wl_ i 3)) (by decide) ⟨by omega, by omega⟩ (Nat.le_of_ble_eq_true rfl) (mm_vs_b (b := 77) rfl (hp_len dy)) (fun v h' hqq => ?_)
      obtain ⟨rfl, hqe⟩ := hqq; rw [hqe]
      by_cases l3 : il_ B s e 3 (wl_ i 3) = 1
      rotate_left
      · have z9 := il_zo l3
        rw [z9]
        refine mm_I ok_Mo_isWord 33 0 63 [some (.ref 52), some (.int (wl_ i 0)), some (.int (wl_ i 1)), some (.int (wl_ i 2)), some (.int (wl_ i 3)), some (.int (wl_ i 4)), some (.int (wl_ i 5)), some (.int (wl_ i 6)), some (.int (wl_ i 7))] [.int 0] (hp_SH ++ dy, g, r) [] rfl trivial rfl rfl (fun _ => ?_) (fun q => False.elim (q rfl))
        refine mm_B ok_Mo_isWord 56 1 (113, [some (.ref 52), some (.int (wl_ i 0)), some (.int (wl_ i 1)), some (.int (wl_ i 2)), some (.int (wl_ i 3)), some (.int (wl_ i 4)), some (.int (wl_ i 5)), some (.int (wl_ i 6)), some (.int (wl_ i 7))], [.int 0], (hp_SH ++ dy, g, r)) [] rfl trivial ?_
        exact mm_rz rfl (mm_at ok_Mo_isWord (i := 57) rfl).1 ⟨Nat.le_refl _, Nat.le_refl _⟩ (Or.inl rfl) (⟨by rw [if_neg (wc_F i hi (fun hw => l3 (wm_il hse hw 3)))], rfl⟩)
      rw [l3]
      refine mm_I ok_Mo_isWord 33 0 63 [some (.ref 52), some (.int (wl_ i 0)), some (.int (wl_ i 1)), some (.int (wl_ i 2)), some (.int (wl_ i 3)), some (.int (wl_ i 4)), some (.int (wl_ i 5)), some (.int (wl_ i 6)), some (.int (wl_ i 7))] [.int 1] (hp_SH ++ dy, g, r) [] rfl trivial rfl rfl (fun q => False.elim (absurd q (by decide))) (fun _ => ?_)
      refine mm_B ok_Mo_isWord 34 3 (70, [some (.ref 52), some (.int (wl_ i 0)), some (.int (wl_ i 1)), some (.int (wl_ i 2)), some (.int (wl_ i 3)), some (.int (wl_ i 4)), some (.int (wl_ i 5)), some (.int (wl_ i 6)), some (.int (wl_ i 7))], [.int (wl_ i 4), .int 4, .ref 52], (hp_SH ++ dy, g, r)) [] rfl trivial ?_
      refine mm_cV (as := [.int 4, .int (wl_ i 4)]) (st := []) (q := 52) cw_Mo_isLetter lk_Mo_177 in_Mo_isLetter sl_Mo_isLetter rfl rfl (mm_at ok_Mo_isWord (i := 37) rfl).1 (ct_Mo_isLetter dy g r hx (k := 4) m3 m1 hen (by omega) (wl_ i 4)) (by decide) ⟨by omega, by omega⟩ (Nat.le_of_ble_eq_true rfl) (mm_vs_b (b := 77) rfl (hp_len dy)) (fun v h' hqq => ?_)
      obtain ⟨rfl, hqe⟩ := hqq; rw [hqe]
      by_cases l4 : il_ B s e 4 (wl_ i 4) = 1
      rotate_left
      · have z9 := il_zo l4
        rw [z9]
        refine mm_I ok_Mo_isWord 38 0 73 [some (.ref 52), some (.int (wl_ i 0)), some (.int (wl_ i 1)), some (.int (wl_ i 2)), some (.int (wl_ i 3)), some (.int (wl_ i 4)), some (.int (wl_ i 5)), some (.int (wl_ i 6)), some (.int (wl_ i 7))] [.int 0] (hp_SH ++ dy, g, r) [] rfl trivial rfl rfl (fun _ => ?_) (fun q => False.elim (q rfl))
        refine mm_B ok_Mo_isWord 56 1 (113, [some (.ref 52), some (.int (wl_ i 0)), some (.int (wl_ i 1)), some (.int (wl_ i 2)), some (.int (wl_ i 3)), some (.int (wl_ i 4)), some (.int (wl_ i 5)), some (.int (wl_ i 6)), some (.int (wl_ i 7))], [.int 0], (hp_SH ++ dy, g, r)) [] rfl trivial ?_
        exact mm_rz rfl (mm_at ok_Mo_isWord (i := 57) rfl).1 ⟨Nat.le_refl _, Nat.le_refl _⟩ (Or.inl rfl) (⟨by rw [if_neg (wc_F i hi (fun hw => l4 (wm_il hse hw 4)))], rfl⟩)
      rw [l4]
      refine mm_I ok_Mo_isWord 38 0 73 [some (.ref 52), some (.int (wl_ i 0)), some (.int (wl_ i 1)), some (.int (wl_ i 2)), some (.int (wl_ i 3)), some (.int (wl_ i 4)), some (.int (wl_ i 5)), some (.int (wl_ i 6)), some (.int (wl_ i 7))] [.int 1] (hp_SH ++ dy, g, r) [] rfl trivial rfl rfl (fun q => False.elim (absurd q (by decide))) (fun _ => ?_)
      refine mm_B ok_Mo_isWord 39 3 (80, [some (.ref 52), some (.int (wl_ i 0)), some (.int (wl_ i 1)), some (.int (wl_ i 2)), some (.int (wl_ i 3)), some (.int (wl_ i 4)), some (.int (wl_ i 5)), some (.int (wl_ i 6)), some (.int (wl_ i 7))], [.int (wl_ i 5), .int 5, .ref 52], (hp_SH ++ dy, g, r)) [] rfl trivial ?_
      refine mm_cV (as := [.int 5, .int (wl_ i 5)]) (st := []) (q := 52) cw_Mo_isLetter lk_Mo_177 in_Mo_isLetter sl_Mo_isLetter rfl rfl (mm_at ok_Mo_isWord (i := 42) rfl).1 (ct_Mo_isLetter dy g r hx (k := 5) m3 m1 hen (by omega) (wl_ i 5)) (by decide) ⟨by omega, by omega⟩ (Nat.le_of_ble_eq_true rfl) (mm_vs_b (b := 77) rfl (hp_len dy)) (fun v h' hqq => ?_)
      obtain ⟨rfl, hqe⟩ := hqq; rw [hqe]
      by_cases l5 : il_ B s e 5 (wl_ i 5) = 1
      rotate_left
      · have z9 := il_zo l5
        rw [z9]
        refine mm_I ok_Mo_isWord 43 0 83 [some (.ref 52), some (.int (wl_ i 0)), some (.int (wl_ i 1)), some (.int (wl_ i 2)), some (.int (wl_ i 3)), some (.int (wl_ i 4)), some (.int (wl_ i 5)), some (.int (wl_ i 6)), some (.int (wl_ i 7))] [.int 0] (hp_SH ++ dy, g, r) [] rfl trivial rfl rfl (fun _ => ?_) (fun q => False.elim (q rfl))
        refine mm_B ok_Mo_isWord 56 1 (113, [some (.ref 52), some (.int (wl_ i 0)), some (.int (wl_ i 1)), some (.int (wl_ i 2)), some (.int (wl_ i 3)), some (.int (wl_ i 4)), some (.int (wl_ i 5)), some (.int (wl_ i 6)), some (.int (wl_ i 7))], [.int 0], (hp_SH ++ dy, g, r)) [] rfl trivial ?_
        exact mm_rz rfl (mm_at ok_Mo_isWord (i := 57) rfl).1 ⟨Nat.le_refl _, Nat.le_refl _⟩ (Or.inl rfl) (⟨by rw [if_neg (wc_F i hi (fun hw => l5 (wm_il hse hw 5)))], rfl⟩)
      rw [l5]
      refine mm_I ok_Mo_isWord 43 0 83 [some (.ref 52), some (.int (wl_ i 0)), some (.int (wl_ i 1)), some (.int (wl_ i 2)), some (.int (wl_ i 3)), some (.int (wl_ i 4)), some (.int (wl_ i 5)), some (.int (wl_ i 6)), some (.int (wl_ i 7))] [.int 1] (hp_SH ++ dy, g, r) [] rfl trivial rfl rfl (fun q => False.elim (absurd q (by decide))) (fun _ => ?_)
      refine mm_B ok_Mo_isWord 44 3 (91, [some (.ref 52), some (.int (wl_ i 0)), some (.int (wl_ i 1)), some (.int (wl_ i 2)), some (.int (wl_ i 3)), some (.int (wl_ i 4)), some (.int (wl_ i 5)), some (.int (wl_ i 6)), some (.int (wl_ i 7))], [.int (wl_ i 6), .int 6, .ref 52], (hp_SH ++ dy, g, r)) [] rfl trivial ?_
      refine mm_cV (as := [.int 6, .int (wl_ i 6)]) (st := []) (q := 52) cw_Mo_isLetter lk_Mo_177 in_Mo_isLetter sl_Mo_isLetter rfl rfl (mm_at ok_Mo_isWord (i := 47) rfl).1 (ct_Mo_isLetter dy g r hx (k := 6) m3 m1 hen (by omega) (wl_ i 6)) (by decide) ⟨by omega, by omega⟩ (Nat.le_of_ble_eq_true rfl) (mm_vs_b (b := 77) rfl (hp_len dy)) (fun v h' hqq => ?_)
      obtain ⟨rfl, hqe⟩ := hqq; rw [hqe]
      by_cases l6 : il_ B s e 6 (wl_ i 6) = 1
      rotate_left
      · have z9 := il_zo l6
        rw [z9]
        refine mm_I ok_Mo_isWord 48 0 94 [some (.ref 52), some (.int (wl_ i 0)), some (.int (wl_ i 1)), some (.int (wl_ i 2)), some (.int (wl_ i 3)), some (.int (wl_ i 4)), some (.int (wl_ i 5)), some (.int (wl_ i 6)), some (.int (wl_ i 7))] [.int 0] (hp_SH ++ dy, g, r) [] rfl trivial rfl rfl (fun _ => ?_) (fun q => False.elim (q rfl))
        refine mm_B ok_Mo_isWord 56 1 (113, [some (.ref 52), some (.int (wl_ i 0)), some (.int (wl_ i 1)), some (.int (wl_ i 2)), some (.int (wl_ i 3)), some (.int (wl_ i 4)), some (.int (wl_ i 5)), some (.int (wl_ i 6)), some (.int (wl_ i 7))], [.int 0], (hp_SH ++ dy, g, r)) [] rfl trivial ?_
        exact mm_rz rfl (mm_at ok_Mo_isWord (i := 57) rfl).1 ⟨Nat.le_refl _, Nat.le_refl _⟩ (Or.inl rfl) (⟨by rw [if_neg (wc_F i hi (fun hw => l6 (wm_il hse hw 6)))], rfl⟩)
      rw [l6]
      refine mm_I ok_Mo_isWord 48 0 94 [some (.ref 52), some (.int (wl_ i 0)), some (.int (wl_ i 1)), some (.int (wl_ i 2)), some (.int (wl_ i 3)), some (.int (wl_ i 4)), some (.int (wl_ i 5)), some (.int (wl_ i 6)), some (.int (wl_ i 7))] [.int 1] (hp_SH ++ dy, g, r) [] rfl trivial rfl rfl (fun q => False.elim (absurd q (by decide))) (fun _ => ?_)
      refine mm_B ok_Mo_isWord 49 3 (102, [some (.ref 52), some (.int (wl_ i 0)), some (.int (wl_ i 1)), some (.int (wl_ i 2)), some (.int (wl_ i 3)), some (.int (wl_ i 4)), some (.int (wl_ i 5)), some (.int (wl_ i 6)), some (.int (wl_ i 7))], [.int (wl_ i 7), .int 7, .ref 52], (hp_SH ++ dy, g, r)) [] rfl trivial ?_
      refine mm_cV (as := [.int 7, .int (wl_ i 7)]) (st := []) (q := 52) cw_Mo_isLetter lk_Mo_177 in_Mo_isLetter sl_Mo_isLetter rfl rfl (mm_at ok_Mo_isWord (i := 52) rfl).1 (ct_Mo_isLetter dy g r hx (k := 7) m3 m1 hen (by omega) (wl_ i 7)) (by decide) ⟨by omega, by omega⟩ (Nat.le_of_ble_eq_true rfl) (mm_vs_b (b := 77) rfl (hp_len dy)) (fun v h' hqq => ?_)
      obtain ⟨rfl, hqe⟩ := hqq; rw [hqe]
      by_cases l7 : il_ B s e 7 (wl_ i 7) = 1
      rotate_left
      · have z9 := il_zo l7
        rw [z9]
        refine mm_I ok_Mo_isWord 53 0 105 [some (.ref 52), some (.int (wl_ i 0)), some (.int (wl_ i 1)), some (.int (wl_ i 2)), some (.int (wl_ i 3)), some (.int (wl_ i 4)), some (.int (wl_ i 5)), some (.int (wl_ i 6)), some (.int (wl_ i 7))] [.int 0] (hp_SH ++ dy, g, r) [] rfl trivial rfl rfl (fun _ => ?_) (fun q => False.elim (q rfl))
        refine mm_B ok_Mo_isWord 56 1 (113, [some (.ref 52), some (.int (wl_ i 0)), some (.int (wl_ i 1)), some (.int (wl_ i 2)), some (.int (wl_ i 3)), some (.int (wl_ i 4)), some (.int (wl_ i 5)), some (.int (wl_ i 6)), some (.int (wl_ i 7))], [.int 0], (hp_SH ++ dy, g, r)) [] rfl trivial ?_
        exact mm_rz rfl (mm_at ok_Mo_isWord (i := 57) rfl).1 ⟨Nat.le_refl _, Nat.le_refl _⟩ (Or.inl rfl) (⟨by rw [if_neg (wc_F i hi (fun hw => l7 (wm_il hse hw 7)))], rfl⟩)
      rw [l7]
      refine mm_I ok_Mo_isWord 53 0 105 [some (.ref 52), some (.int (wl_ i 0)), some (.int (wl_ i 1)), some (.int (wl_ i 2)), some (.int (wl_ i 3)), some (.int (wl_ i 4)), some (.int (wl_ i 5)), some (.int (wl_ i 6)), some (.int (wl_ i 7))] [.int 1] (hp_SH ++ dy, g, r) [] rfl trivial rfl rfl (fun q => False.elim (absurd q (by decide))) (fun _ => ?_)
      refine mm_B ok_Mo_isWord 54 2 (113, [some (.ref 52), some (.int (wl_ i 0)), some (.int (wl_ i 1)), some (.int (wl_ i 2)), some (.int (wl_ i 3)), some (.int (wl_ i 4)), some (.int (wl_ i 5)), some (.int (wl_ i 6)), some (.int (wl_ i 7))], [.int 1], (hp_SH ++ dy, g, r)) [] rfl trivial ?_
      have hw : wo_ B s e i = true := il_wm hi hse h8 hall (fun k hk => by
        match k, hk with
        | 0, _ => exact l0
        | 1, _ => exact l1
        | 2, _ => exact l2
        | 3, _ => exact l3
        | 4, _ => exact l4
        | 5, _ => exact l5
        | 6, _ => exact l6
        | 7, _ => exact l7
        | k + 8, hk => omega)
      exact mm_rz rfl (mm_at ok_Mo_isWord (i := 57) rfl).1 ⟨Nat.le_refl _, Nat.le_refl _⟩ (Or.inr rfl) (⟨by rw [if_pos (wc_T i hi hw)], rfl⟩)
    · have hlen := sb_len i hi
      have h9 : ¬ wo_ B s e i = true := by
        intro hw
        unfold wo_ wm_ at hw
        have := of_decide_eq_true ((Bool.and_eq_true _ _).mp hw).1
        omega
      refine mm_I ok_Mo_isWord 13 0 26 [some (.ref 52), some (.int (wl_ i 0)), some (.int (wl_ i 1)), some (.int (wl_ i 2)), some (.int (wl_ i 3)), some (.int (wl_ i 4)), some (.int (wl_ i 5)), some (.int (wl_ i 6)), some (.int (wl_ i 7))] [.int (nI (s + 8)), .int (nI e)] (hp_SH ++ dy, g, r) [] rfl trivial rfl rfl (fun _ => ?_) (fun q => False.elim (q (nI_lt (by omega) (by omega))))
      refine mm_B ok_Mo_isWord 56 1 (113, [some (.ref 52), some (.int (wl_ i 0)), some (.int (wl_ i 1)), some (.int (wl_ i 2)), some (.int (wl_ i 3)), some (.int (wl_ i 4)), some (.int (wl_ i 5)), some (.int (wl_ i 6)), some (.int (wl_ i 7))], [.int 0], (hp_SH ++ dy, g, r)) [] rfl trivial ?_
      exact mm_rz rfl (mm_at ok_Mo_isWord (i := 57) rfl).1 ⟨Nat.le_refl _, Nat.le_refl _⟩ (Or.inl rfl) (⟨by rw [if_neg (wc_F i hi h9)], rfl⟩)
  · refine mm_I ok_Mo_isWord 6 0 12 [some (.ref 52), some (.int (wl_ i 0)), some (.int (wl_ i 1)), some (.int (wl_ i 2)), some (.int (wl_ i 3)), some (.int (wl_ i 4)), some (.int (wl_ i 5)), some (.int (wl_ i 6)), some (.int (wl_ i 7))] [.int 1, .int (mk0 B n s)] (hp_SH ++ dy, g, r) [] rfl trivial rfl rfl (fun _ => ?_) (fun q => False.elim (h1 q))
    refine mm_B ok_Mo_isWord 56 1 (113, [some (.ref 52), some (.int (wl_ i 0)), some (.int (wl_ i 1)), some (.int (wl_ i 2)), some (.int (wl_ i 3)), some (.int (wl_ i 4)), some (.int (wl_ i 5)), some (.int (wl_ i 6)), some (.int (wl_ i 7))], [.int 0], (hp_SH ++ dy, g, r)) [] rfl trivial ?_
    exact mm_rz rfl (mm_at ok_Mo_isWord (i := 57) rfl).1 ⟨Nat.le_refl _, Nat.le_refl _⟩ (Or.inl rfl) (⟨by rw [if_neg (fun e => h1 (tk_wd hi e))], rfl⟩)
theorem ct_Mo_isWord1 (dy : List mm_Sh) (g : Nat → Nat → Int32) (r : (Nat → Nat → Int64) × Nat × (Nat → Int32)) (hb : g 52 29 = 1) (a0 a1 a2 a3 a4 a5 a6 a7 : Int32) : mm_Ct 1 M_Mo_isWord [.ref 52, .int a0, .int a1, .int a2, .int a3, .int a4, .int a5, .int a6, .int a7] (hp_SH ++ dy, g, r) 0 0 (fun v h' => v = some (.int 0) ∧ h' = (hp_SH ++ dy, g, r)) := by
  refine mm_start pl_Mo (Nat.le_of_ble_eq_true rfl) ?_
  refine mm_B ok_Mo_isWord 0 2 (4, [some (.ref 52), some (.int a0), some (.int a1), some (.int a2), some (.int a3), some (.int a4), some (.int a5), some (.int a6), some (.int a7)], [.int (g 52 29)], (hp_SH ++ dy, g, r)) [] rfl trivial ?_
  rw [hb]
  refine mm_I ok_Mo_isWord 2 0 4 [some (.ref 52), some (.int a0), some (.int a1), some (.int a2), some (.int a3), some (.int a4), some (.int a5), some (.int a6), some (.int a7)] [.int 1] (hp_SH ++ dy, g, r) [] rfl trivial rfl rfl (fun _ => ?_) (fun q => False.elim (absurd q (by decide)))
  refine mm_B ok_Mo_isWord 56 1 (113, [some (.ref 52), some (.int a0), some (.int a1), some (.int a2), some (.int a3), some (.int a4), some (.int a5), some (.int a6), some (.int a7)], [.int 0], (hp_SH ++ dy, g, r)) [] rfl trivial ?_
  exact mm_rz rfl (mm_at ok_Mo_isWord (i := 57) rfl).1 ⟨Nat.le_refl _, Nat.le_refl _⟩ (Or.inl rfl) (⟨rfl, rfl⟩)
/-- the model stands at the token that begins at s, o are open -/
def ms_ (B : Nat → Int32) (n : Nat) (g : Nat → Nat → Int32) (r : (Nat → Nat → Int64) × Nat × (Nat → Int32)) (s o : Nat) : Prop := ml_ B n g r s ∧ g 52 28 = nI o ∧ g 52 29 = 0
theorem ms_nx {B : Nat → Int32} {n q : Nat} {g : Nat → Nat → Int32} {r : (Nat → Nat → Int64) × Nat × (Nat → Int32)} (h : ml_ B n g r (ts_ B n q)) (ht : ¬ tk_ B n q = -23) : g 52 24 = nI (nx_ B n q) := by
  rw [h.1, mh_nx ht]
  rfl
theorem ms_up {B : Nat → Int32} {n s o o' : Nat} {g : Nat → Nat → Int32} {r : (Nat → Nat → Int64) × Nat × (Nat → Int32)} (h : ms_ B n g r s o) : ms_ B n (mm_up g 52 28 (nI o')) r s o' := ⟨h.1, rfl, h.2.2⟩
theorem ct_Mo_opens (dy : List mm_Sh) (g : Nat → Nat → Int32) (r : (Nat → Nat → Int64) × Nat × (Nat → Int32)) {t n q o : Nat} {B sc : Nat → Int32} (hx : mx_ g t n B sc) (hm : ms_ B n g r (ts_ B n q) o) (hq : q ≤ n) (ho : o < 5) (ht : ¬ tk_ B n q = -23) : mm_Ct 4 M_Mo_opens [.ref 52] (hp_SH ++ dy, g, r) 0 0 (fun v h' => v = some (.int 1) ∧ ∃ g' r', h' = (hp_SH ++ dy, g', r') ∧ r'.2 = r.2 ∧ fr_ mf_ g g' ∧ ms_ B n g' r' (ts_ B n (nx_ B n q)) (o + 1)) := by
  obtain ⟨m, h28, h29⟩ := hm
  refine mm_start pl_Mo (Nat.le_of_ble_eq_true rfl) ?_
  refine mm_B ok_Mo_opens 0 3 (5, [some (.ref 52)], [.int 5, .int (g 52 28)], (hp_SH ++ dy, g, r)) [] rfl trivial ?_
  rw [h28]
  refine mm_I ok_Mo_opens 3 0 5 [some (.ref 52)] [.int 5, .int (nI o)] (hp_SH ++ dy, g, r) [] rfl trivial rfl rfl (fun _ => ?_) (fun q => False.elim (absurd ((nI_eq (a := o) (b := 5) (by omega) (by decide)).mp q) (by omega)))
  refine mm_B ok_Mo_opens 8 7 (25, [some (.ref 52)], [.ref 52], (hp_SH ++ dy, mm_up g 52 28 ((g 52 28) + 1), r)) [] rfl trivial ?_
  rw [h28]
  rw [nI_1]
  have hF1 : fr_ mf_ g (mm_up g 52 28 (nI (o + 1))) := fr_.rf.up _ rfl
  refine mm_cV (as := []) (st := []) (q := 52) cw_Mo_next lk_Mo_187 in_Mo_next sl_Mo_next rfl rfl (mm_at ok_Mo_opens (i := 15) rfl).1 (ct_Mo_next dy (mm_up g 52 28 (nI (o + 1))) r (mx_fr hx hF1) (nx_ub B hq) (ms_nx m ht)) (by decide) ⟨by omega, by omega⟩ (Nat.le_of_ble_eq_true rfl) (mm_vs_b (b := 77) rfl (hp_len dy)) (fun v h' hqq => ?_)
  obtain ⟨rfl, g2, r2, hqe, hr, hF, hml⟩ := hqq; rw [hqe]
  refine mm_B ok_Mo_opens 16 1 (29, [some (.ref 52)], [.int 1], (hp_SH ++ dy, g2, r2)) [] rfl trivial ?_
  exact mm_rz rfl (mm_at ok_Mo_opens (i := 17) rfl).1 ⟨Nat.le_refl _, Nat.le_refl _⟩ (Or.inr rfl) (⟨rfl, g2, r2, rfl, hr, hF1.tr (hF.mono mf_mg), hml, hF 52 28 rfl, (hF 52 29 rfl).trans h29⟩)
theorem ct_Mo_opens5 (dy : List mm_Sh) (g : Nat → Nat → Int32) (r : (Nat → Nat → Int64) × Nat × (Nat → Int32)) (h28 : g 52 28 = nI 5) (hb : g 52 29 = 0) : mm_Ct 4 M_Mo_opens [.ref 52] (hp_SH ++ dy, g, r) 0 0 (fun v h' => v = some (.int 0) ∧ h' = (hp_SH ++ dy, mm_up (mm_up g 52 29 1) 52 30 (g 52 26), r)) := by
  refine mm_start pl_Mo (Nat.le_of_ble_eq_true rfl) ?_
  refine mm_B ok_Mo_opens 0 3 (5, [some (.ref 52)], [.int 5, .int (g 52 28)], (hp_SH ++ dy, g, r)) [] rfl trivial ?_
  rw [h28]
  refine mm_I ok_Mo_opens 3 0 5 [some (.ref 52)] [.int 5, .int (nI 5)] (hp_SH ++ dy, g, r) [] rfl trivial rfl rfl (fun q => False.elim (absurd rfl q)) (fun _ => ?_)
  refine mm_B ok_Mo_opens 4 1 (9, [some (.ref 52)], [.ref 52], (hp_SH ++ dy, g, r)) [] rfl trivial ?_
  refine mm_cV (as := []) (st := []) (q := 52) cw_Mo_fail lk_Mo_184 in_Mo_fail sl_Mo_fail rfl rfl (mm_at ok_Mo_opens (i := 5) rfl).1 (ct_Mo_fail0 dy g r hb) (by decide) ⟨by omega, by omega⟩ (Nat.le_of_ble_eq_true rfl) (mm_vs_b (b := 77) rfl (hp_len dy)) (fun v h' hqq => ?_)
  obtain ⟨rfl, hqe⟩ := hqq; rw [hqe]
  refine mm_B ok_Mo_opens 6 1 (13, [some (.ref 52)], [.int 0], (hp_SH ++ dy, mm_up (mm_up g 52 29 1) 52 30 (g 52 26), r)) [] rfl trivial ?_
  exact mm_rz rfl (mm_at ok_Mo_opens (i := 7) rfl).1 ⟨Nat.le_refl _, Nat.le_refl _⟩ (Or.inl rfl) (⟨rfl, rfl⟩)
theorem ct_Mo_name (dy : List mm_Sh) (g : Nat → Nat → Int32) (r : (Nat → Nat → Int64) × Nat × (Nat → Int32)) {t n s : Nat} {B sc : Nat → Int32} (hx : mx_ g t n B sc) (hm : ml_ B n g r s) (hb : g 52 29 = 0) {i : Nat} (hi : i < 6) (ht : tk0 B n s = kc_ i) : mm_Ct 4 M_Mo_name [.ref 52] (hp_SH ++ dy, g, r) 0 0 (fun v h' => v = some (.int (sc i)) ∧ h' = (hp_SH ++ dy, g, r)) := by
  have hsc := hx.2.2.2.2.2
  have hd : ∀ i, i < 6 → ∀ j, j < 12 → ¬ i = j → ¬ kc_ i = kc_ j := by decide
  refine mm_start pl_Mo (Nat.le_of_ble_eq_true rfl) ?_
  refine mm_B ok_Mo_name 0 9 (13, [some (.ref 52)], [.int 0, .int 0, .int 0, .int 0, .int 100, .int 110, .int 101, .int 98, .ref 52], (hp_SH ++ dy, g, r)) [] rfl trivial ?_
  refine mm_cV (as := [.int 98, .int 101, .int 110, .int 100, .int 0, .int 0, .int 0, .int 0]) (st := []) (q := 52) cw_Mo_isWord lk_Mo_190 in_Mo_isWord sl_Mo_isWord rfl rfl (mm_at ok_Mo_name (i := 9) rfl).1 (ct_Mo_isWord dy g r hx hm hb (i := 0) (by decide)) (by decide) ⟨by omega, by omega⟩ (Nat.le_of_ble_eq_true rfl) (mm_vs_b (b := 77) rfl (hp_len dy)) (fun v h' hqq => ?_)
  obtain ⟨rfl, hqe⟩ := hqq; rw [hqe]
  by_cases n0 : i = 0
  · subst n0
    rw [if_pos ht]
    refine mm_I ok_Mo_name 10 0 16 [some (.ref 52)] [.int 1] (hp_SH ++ dy, g, r) [] rfl trivial rfl rfl (fun q => False.elim (absurd q (by decide))) (fun _ => ?_)
    refine mm_B ok_Mo_name 11 2 (23, [some (.ref 52)], [.int (g 52 16)], (hp_SH ++ dy, g, r)) [] rfl trivial ?_
    exact mm_ri rfl (mm_at ok_Mo_name (i := 13) rfl).1 ⟨Nat.le_refl _, Nat.le_refl _⟩ (⟨by rw [hsc.1], rfl⟩)
  rw [if_neg (fun e => hd i hi 0 (by decide) n0 (ht.symm.trans e))]
  refine mm_I ok_Mo_name 10 0 16 [some (.ref 52)] [.int 0] (hp_SH ++ dy, g, r) [] rfl trivial rfl rfl (fun _ => ?_) (fun q => False.elim (q rfl))
  refine mm_B ok_Mo_name 14 9 (38, [some (.ref 52)], [.int 0, .int 0, .int 0, .int 100, .int 108, .int 105, .int 104, .int 99, .ref 52], (hp_SH ++ dy, g, r)) [] rfl trivial ?_
  refine mm_cV (as := [.int 99, .int 104, .int 105, .int 108, .int 100, .int 0, .int 0, .int 0]) (st := []) (q := 52) cw_Mo_isWord lk_Mo_190 in_Mo_isWord sl_Mo_isWord rfl rfl (mm_at ok_Mo_name (i := 23) rfl).1 (ct_Mo_isWord dy g r hx hm hb (i := 1) (by decide)) (by decide) ⟨by omega, by omega⟩ (Nat.le_of_ble_eq_true rfl) (mm_vs_b (b := 77) rfl (hp_len dy)) (fun v h' hqq => ?_)
  obtain ⟨rfl, hqe⟩ := hqq; rw [hqe]
  by_cases n1 : i = 1
  · subst n1
    rw [if_pos ht]
    refine mm_I ok_Mo_name 24 0 41 [some (.ref 52)] [.int 1] (hp_SH ++ dy, g, r) [] rfl trivial rfl rfl (fun q => False.elim (absurd q (by decide))) (fun _ => ?_)
    refine mm_B ok_Mo_name 25 2 (48, [some (.ref 52)], [.int (g 52 17)], (hp_SH ++ dy, g, r)) [] rfl trivial ?_
    exact mm_ri rfl (mm_at ok_Mo_name (i := 27) rfl).1 ⟨Nat.le_refl _, Nat.le_refl _⟩ (⟨by rw [hsc.2.1], rfl⟩)
  rw [if_neg (fun e => hd i hi 1 (by decide) n1 (ht.symm.trans e))]
  refine mm_I ok_Mo_name 24 0 41 [some (.ref 52)] [.int 0] (hp_SH ++ dy, g, r) [] rfl trivial rfl rfl (fun _ => ?_) (fun q => False.elim (q rfl))
  refine mm_B ok_Mo_name 28 9 (64, [some (.ref 52)], [.int 0, .int 0, .int 110, .int 111, .int 115, .int 115, .int 101, .int 108, .ref 52], (hp_SH ++ dy, g, r)) [] rfl trivial ?_
  refine mm_cV (as := [.int 108, .int 101, .int 115, .int 115, .int 111, .int 110, .int 0, .int 0]) (st := []) (q := 52) cw_Mo_isWord lk_Mo_190 in_Mo_isWord sl_Mo_isWord rfl rfl (mm_at ok_Mo_name (i := 37) rfl).1 (ct_Mo_isWord dy g r hx hm hb (i := 2) (by decide)) (by decide) ⟨by omega, by omega⟩ (Nat.le_of_ble_eq_true rfl) (mm_vs_b (b := 77) rfl (hp_len dy)) (fun v h' hqq => ?_)
  obtain ⟨rfl, hqe⟩ := hqq; rw [hqe]
  by_cases n2 : i = 2
  · subst n2
    rw [if_pos ht]
    refine mm_I ok_Mo_name 38 0 67 [some (.ref 52)] [.int 1] (hp_SH ++ dy, g, r) [] rfl trivial rfl rfl (fun q => False.elim (absurd q (by decide))) (fun _ => ?_)
    refine mm_B ok_Mo_name 39 2 (74, [some (.ref 52)], [.int (g 52 18)], (hp_SH ++ dy, g, r)) [] rfl trivial ?_
    exact mm_ri rfl (mm_at ok_Mo_name (i := 41) rfl).1 ⟨Nat.le_refl _, Nat.le_refl _⟩ (⟨by rw [hsc.2.2.1], rfl⟩)
  rw [if_neg (fun e => hd i hi 2 (by decide) n2 (ht.symm.trans e))]
  refine mm_I ok_Mo_name 38 0 67 [some (.ref 52)] [.int 0] (hp_SH ++ dy, g, r) [] rfl trivial rfl rfl (fun _ => ?_) (fun q => False.elim (q rfl))
  refine mm_B ok_Mo_name 42 9 (89, [some (.ref 52)], [.int 0, .int 0, .int 0, .int 110, .int 119, .int 111, .int 110, .int 107, .ref 52], (hp_SH ++ dy, g, r)) [] rfl trivial ?_
  refine mm_cV (as := [.int 107, .int 110, .int 111, .int 119, .int 110, .int 0, .int 0, .int 0]) (st := []) (q := 52) cw_Mo_isWord lk_Mo_190 in_Mo_isWord sl_Mo_isWord rfl rfl (mm_at ok_Mo_name (i := 51) rfl).1 (ct_Mo_isWord dy g r hx hm hb (i := 3) (by decide)) (by decide) ⟨by omega, by omega⟩ (Nat.le_of_ble_eq_true rfl) (mm_vs_b (b := 77) rfl (hp_len dy)) (fun v h' hqq => ?_)
  obtain ⟨rfl, hqe⟩ := hqq; rw [hqe]
  by_cases n3 : i = 3
  · subst n3
    rw [if_pos ht]
    refine mm_I ok_Mo_name 52 0 92 [some (.ref 52)] [.int 1] (hp_SH ++ dy, g, r) [] rfl trivial rfl rfl (fun q => False.elim (absurd q (by decide))) (fun _ => ?_)
    refine mm_B ok_Mo_name 53 2 (99, [some (.ref 52)], [.int (g 52 19)], (hp_SH ++ dy, g, r)) [] rfl trivial ?_
    exact mm_ri rfl (mm_at ok_Mo_name (i := 55) rfl).1 ⟨Nat.le_refl _, Nat.le_refl _⟩ (⟨by rw [hsc.2.2.2.1], rfl⟩)
  rw [if_neg (fun e => hd i hi 3 (by decide) n3 (ht.symm.trans e))]
  refine mm_I ok_Mo_name 52 0 92 [some (.ref 52)] [.int 0] (hp_SH ++ dy, g, r) [] rfl trivial rfl rfl (fun _ => ?_) (fun q => False.elim (q rfl))
  refine mm_B ok_Mo_name 56 9 (112, [some (.ref 52)], [.int 0, .int 0, .int 0, .int 0, .int 0, .int 101, .int 103, .int 97, .ref 52], (hp_SH ++ dy, g, r)) [] rfl trivial ?_
  refine mm_cV (as := [.int 97, .int 103, .int 101, .int 0, .int 0, .int 0, .int 0, .int 0]) (st := []) (q := 52) cw_Mo_isWord lk_Mo_190 in_Mo_isWord sl_Mo_isWord rfl rfl (mm_at ok_Mo_name (i := 65) rfl).1 (ct_Mo_isWord dy g r hx hm hb (i := 4) (by decide)) (by decide) ⟨by omega, by omega⟩ (Nat.le_of_ble_eq_true rfl) (mm_vs_b (b := 77) rfl (hp_len dy)) (fun v h' hqq => ?_)
  obtain ⟨rfl, hqe⟩ := hqq; rw [hqe]
  by_cases n4 : i = 4
  · subst n4
    rw [if_pos ht]
    refine mm_I ok_Mo_name 66 0 115 [some (.ref 52)] [.int 1] (hp_SH ++ dy, g, r) [] rfl trivial rfl rfl (fun q => False.elim (absurd q (by decide))) (fun _ => ?_)
    refine mm_B ok_Mo_name 67 2 (122, [some (.ref 52)], [.int (g 52 20)], (hp_SH ++ dy, g, r)) [] rfl trivial ?_
    exact mm_ri rfl (mm_at ok_Mo_name (i := 69) rfl).1 ⟨Nat.le_refl _, Nat.le_refl _⟩ (⟨by rw [hsc.2.2.2.2.1], rfl⟩)
  rw [if_neg (fun e => hd i hi 4 (by decide) n4 (ht.symm.trans e))]
  refine mm_I ok_Mo_name 66 0 115 [some (.ref 52)] [.int 0] (hp_SH ++ dy, g, r) [] rfl trivial rfl rfl (fun _ => ?_) (fun q => False.elim (q rfl))
  refine mm_B ok_Mo_name 70 9 (137, [some (.ref 52)], [.int 0, .int 0, .int 0, .int 110, .int 101, .int 116, .int 102, .int 111, .ref 52], (hp_SH ++ dy, g, r)) [] rfl trivial ?_
  refine mm_cV (as := [.int 111, .int 102, .int 116, .int 101, .int 110, .int 0, .int 0, .int 0]) (st := []) (q := 52) cw_Mo_isWord lk_Mo_190 in_Mo_isWord sl_Mo_isWord rfl rfl (mm_at ok_Mo_name (i := 79) rfl).1 (ct_Mo_isWord dy g r hx hm hb (i := 5) (by decide)) (by decide) ⟨by omega, by omega⟩ (Nat.le_of_ble_eq_true rfl) (mm_vs_b (b := 77) rfl (hp_len dy)) (fun v h' hqq => ?_)
  obtain ⟨rfl, hqe⟩ := hqq; rw [hqe]
  by_cases n5 : i = 5
  · subst n5
    rw [if_pos ht]
    refine mm_I ok_Mo_name 80 0 140 [some (.ref 52)] [.int 1] (hp_SH ++ dy, g, r) [] rfl trivial rfl rfl (fun q => False.elim (absurd q (by decide))) (fun _ => ?_)
    refine mm_B ok_Mo_name 81 2 (147, [some (.ref 52)], [.int (g 52 21)], (hp_SH ++ dy, g, r)) [] rfl trivial ?_
    exact mm_ri rfl (mm_at ok_Mo_name (i := 83) rfl).1 ⟨Nat.le_refl _, Nat.le_refl _⟩ (⟨by rw [hsc.2.2.2.2.2], rfl⟩)
  rw [if_neg (fun e => hd i hi 5 (by decide) n5 (ht.symm.trans e))]
  refine mm_I ok_Mo_name 80 0 140 [some (.ref 52)] [.int 0] (hp_SH ++ dy, g, r) [] rfl trivial rfl rfl (fun _ => ?_) (fun q => False.elim (q rfl))
  omega
theorem ct_Mo_nameX (dy : List mm_Sh) (g : Nat → Nat → Int32) (r : (Nat → Nat → Int64) × Nat × (Nat → Int32)) {t n s : Nat} {B sc : Nat → Int32} (hx : mx_ g t n B sc) (hm : ml_ B n g r s) (hb : g 52 29 = 0) (ht : ∀ i, i < 6 → ¬ tk0 B n s = kc_ i) : mm_Ct 4 M_Mo_name [.ref 52] (hp_SH ++ dy, g, r) 0 0 (fun v h' => v = some (.int 0) ∧ h' = (hp_SH ++ dy, mm_up (mm_up g 52 29 1) 52 30 (g 52 26), r)) := by
  refine mm_start pl_Mo (Nat.le_of_ble_eq_true rfl) ?_
  refine mm_B ok_Mo_name 0 9 (13, [some (.ref 52)], [.int 0, .int 0, .int 0, .int 0, .int 100, .int 110, .int 101, .int 98, .ref 52], (hp_SH ++ dy, g, r)) [] rfl trivial ?_
  refine mm_cV (as := [.int 98, .int 101, .int 110, .int 100, .int 0, .int 0, .int 0, .int 0]) (st := []) (q := 52) cw_Mo_isWord lk_Mo_190 in_Mo_isWord sl_Mo_isWord rfl rfl (mm_at ok_Mo_name (i := 9) rfl).1 (ct_Mo_isWord dy g r hx hm hb (i := 0) (by decide)) (by decide) ⟨by omega, by omega⟩ (Nat.le_of_ble_eq_true rfl) (mm_vs_b (b := 77) rfl (hp_len dy)) (fun v h' hqq => ?_)
  obtain ⟨rfl, hqe⟩ := hqq; rw [hqe]
  rw [if_neg (ht 0 (by decide))]
  refine mm_I ok_Mo_name 10 0 16 [some (.ref 52)] [.int 0] (hp_SH ++ dy, g, r) [] rfl trivial rfl rfl (fun _ => ?_) (fun q => False.elim (q rfl))
  refine mm_B ok_Mo_name 14 9 (38, [some (.ref 52)], [.int 0, .int 0, .int 0, .int 100, .int 108, .int 105, .int 104, .int 99, .ref 52], (hp_SH ++ dy, g, r)) [] rfl trivial ?_
  refine mm_cV (as := [.int 99, .int 104, .int 105, .int 108, .int 100, .int 0, .int 0, .int 0]) (st := []) (q := 52) cw_Mo_isWord lk_Mo_190 in_Mo_isWord sl_Mo_isWord rfl rfl (mm_at ok_Mo_name (i := 23) rfl).1 (ct_Mo_isWord dy g r hx hm hb (i := 1) (by decide)) (by decide) ⟨by omega, by omega⟩ (Nat.le_of_ble_eq_true rfl) (mm_vs_b (b := 77) rfl (hp_len dy)) (fun v h' hqq => ?_)
  obtain ⟨rfl, hqe⟩ := hqq; rw [hqe]
  rw [if_neg (ht 1 (by decide))]
  refine mm_I ok_Mo_name 24 0 41 [some (.ref 52)] [.int 0] (hp_SH ++ dy, g, r) [] rfl trivial rfl rfl (fun _ => ?_) (fun q => False.elim (q rfl))
  refine mm_B ok_Mo_name 28 9 (64, [some (.ref 52)], [.int 0, .int 0, .int 110, .int 111, .int 115, .int 115, .int 101, .int 108, .ref 52], (hp_SH ++ dy, g, r)) [] rfl trivial ?_
  refine mm_cV (as := [.int 108, .int 101, .int 115, .int 115, .int 111, .int 110, .int 0, .int 0]) (st := []) (q := 52) cw_Mo_isWord lk_Mo_190 in_Mo_isWord sl_Mo_isWord rfl rfl (mm_at ok_Mo_name (i := 37) rfl).1 (ct_Mo_isWord dy g r hx hm hb (i := 2) (by decide)) (by decide) ⟨by omega, by omega⟩ (Nat.le_of_ble_eq_true rfl) (mm_vs_b (b := 77) rfl (hp_len dy)) (fun v h' hqq => ?_)
  obtain ⟨rfl, hqe⟩ := hqq; rw [hqe]
  rw [if_neg (ht 2 (by decide))]
  refine mm_I ok_Mo_name 38 0 67 [some (.ref 52)] [.int 0] (hp_SH ++ dy, g, r) [] rfl trivial rfl rfl (fun _ => ?_) (fun q => False.elim (q rfl))
  refine mm_B ok_Mo_name 42 9 (89, [some (.ref 52)], [.int 0, .int 0, .int 0, .int 110, .int 119, .int 111, .int 110, .int 107, .ref 52], (hp_SH ++ dy, g, r)) [] rfl trivial ?_
  refine mm_cV (as := [.int 107, .int 110, .int 111, .int 119, .int 110, .int 0, .int 0, .int 0]) (st := []) (q := 52) cw_Mo_isWord lk_Mo_190 in_Mo_isWord sl_Mo_isWord rfl rfl (mm_at ok_Mo_name (i := 51) rfl).1 (ct_Mo_isWord dy g r hx hm hb (i := 3) (by decide)) (by decide) ⟨by omega, by omega⟩ (Nat.le_of_ble_eq_true rfl) (mm_vs_b (b := 77) rfl (hp_len dy)) (fun v h' hqq => ?_)
  obtain ⟨rfl, hqe⟩ := hqq; rw [hqe]
  rw [if_neg (ht 3 (by decide))]
  refine mm_I ok_Mo_name 52 0 92 [some (.ref 52)] [.int 0] (hp_SH ++ dy, g, r) [] rfl trivial rfl rfl (fun _ => ?_) (fun q => False.elim (q rfl))
  refine mm_B ok_Mo_name 56 9 (112, [some (.ref 52)], [.int 0, .int 0, .int 0, .int 0, .int 0, .int 101, .int 103, .int 97, .ref 52], (hp_SH ++ dy, g, r)) [] rfl trivial ?_
  refine mm_cV (as := [.int 97, .int 103, .int 101, .int 0, .int 0, .int 0, .int 0, .int 0]) (st := []) (q := 52) cw_Mo_isWord lk_Mo_190 in_Mo_isWord sl_Mo_isWord rfl rfl (mm_at ok_Mo_name (i := 65) rfl).1 (ct_Mo_isWord dy g r hx hm hb (i := 4) (by decide)) (by decide) ⟨by omega, by omega⟩ (Nat.le_of_ble_eq_true rfl) (mm_vs_b (b := 77) rfl (hp_len dy)) (fun v h' hqq => ?_)
  obtain ⟨rfl, hqe⟩ := hqq; rw [hqe]
  rw [if_neg (ht 4 (by decide))]
  refine mm_I ok_Mo_name 66 0 115 [some (.ref 52)] [.int 0] (hp_SH ++ dy, g, r) [] rfl trivial rfl rfl (fun _ => ?_) (fun q => False.elim (q rfl))
  refine mm_B ok_Mo_name 70 9 (137, [some (.ref 52)], [.int 0, .int 0, .int 0, .int 110, .int 101, .int 116, .int 102, .int 111, .ref 52], (hp_SH ++ dy, g, r)) [] rfl trivial ?_
  refine mm_cV (as := [.int 111, .int 102, .int 116, .int 101, .int 110, .int 0, .int 0, .int 0]) (st := []) (q := 52) cw_Mo_isWord lk_Mo_190 in_Mo_isWord sl_Mo_isWord rfl rfl (mm_at ok_Mo_name (i := 79) rfl).1 (ct_Mo_isWord dy g r hx hm hb (i := 5) (by decide)) (by decide) ⟨by omega, by omega⟩ (Nat.le_of_ble_eq_true rfl) (mm_vs_b (b := 77) rfl (hp_len dy)) (fun v h' hqq => ?_)
  obtain ⟨rfl, hqe⟩ := hqq; rw [hqe]
  rw [if_neg (ht 5 (by decide))]
  refine mm_I ok_Mo_name 80 0 140 [some (.ref 52)] [.int 0] (hp_SH ++ dy, g, r) [] rfl trivial rfl rfl (fun _ => ?_) (fun q => False.elim (q rfl))
  refine mm_B ok_Mo_name 84 1 (149, [some (.ref 52)], [.ref 52], (hp_SH ++ dy, g, r)) [] rfl trivial ?_
  refine mm_cV (as := []) (st := []) (q := 52) cw_Mo_fail lk_Mo_184 in_Mo_fail sl_Mo_fail rfl rfl (mm_at ok_Mo_name (i := 85) rfl).1 (ct_Mo_fail0 dy g r hb) (by decide) ⟨by omega, by omega⟩ (Nat.le_of_ble_eq_true rfl) (mm_vs_b (b := 77) rfl (hp_len dy)) (fun v h' hqq => ?_)
  obtain ⟨rfl, hqe⟩ := hqq; rw [hqe]
  refine mm_B ok_Mo_name 86 1 (153, [some (.ref 52)], [.int 0], (hp_SH ++ dy, mm_up (mm_up g 52 29 1) 52 30 (g 52 26), r)) [] rfl trivial ?_
  exact mm_ri rfl (mm_at ok_Mo_name (i := 87) rfl).1 ⟨Nat.le_refl _, Nat.le_refl _⟩ (⟨rfl, rfl⟩)

