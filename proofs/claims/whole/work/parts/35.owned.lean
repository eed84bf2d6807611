/-! ===== Spring: which kind, what is owned ===== -/
theorem ct_Sp_kindOf (dy : List mm_Sh) (g P : Nat → Nat → Int32) (r : (Nat → Nat → Int64) × Nat × (Nat → Int32)) (hP : nr_ g = P) {T : sp_T} {l : Nat} (hL : rl_L T P) (hl : l < T.1) : mm_Ct 1 M_Sp_kindOf [.ref 1, .int (nI l)] (hp_SH ++ dy, g, r) 0 0 (fun v h' => v = some (.ref (19 + T.2.1 l)) ∧ h' = (hp_SH ++ dy, g, r)) := by
  obtain ⟨h20, h4, hls, hk⟩ := hL
  obtain ⟨h3, h6, -⟩ := hls l hl
  have e3 : g 3 (nI l).toNatClampNeg = nI (T.2.1 l) := by rw [nI_clamp (by omega), nr_at hP 3 l rfl]; exact h3
  have h12 : g 12 (T.2.1 l) = nI (20 + T.2.1 l) := by rw [nr_at hP 12 _ rfl]; exact hk _ h6
  refine mm_start pl_Sp (Nat.le_of_ble_eq_true rfl) ?_
  refine mm_B ok_Sp_kindOf 0 7 (13, [some (.ref 1), some (.int (nI l))], [.int (g 3 ((nI l).toNatClampNeg)), .ref 12], (hp_SH ++ dy, g, r)) [vp_in (nI l) 4] rfl (show vp_in (nI l) 4 from (nI_vi (by omega) (by decide))) ?_
  rw [e3]
  refine mm_aald (t := 3) (n := 6) (v := .ref (19 + T.2.1 l)) (Or.inr (Or.inl rfl)) rfl (nI_vi h6 (by decide)) ?_ (mm_at ok_Sp_kindOf (i := 7) rfl).1 ?_
  · show mm_rf (g 12 (nI (T.2.1 l)).toNatClampNeg) = _; rw [nI_clamp (by omega), h12]; unfold mm_rf; rw [if_neg (nI_nle (by omega) (by omega)), nI_clamp (by omega), show 20 + T.2.1 l - 1 = 19 + T.2.1 l by omega]
  exact mm_ra rfl (Or.inl ⟨_, rfl⟩) rfl (mm_at ok_Sp_kindOf (i := 8) rfl).1 ⟨Nat.le_refl _, Nat.le_refl _⟩ (⟨rfl, rfl⟩)
theorem ow_sub {t b : Nat} (h0 : t ≠ 0) (hb : t ≤ b + 1) : nI b - (nI t - 1) = nI (b + 1 - t) := by
  obtain ⟨u, rfl⟩ : ∃ u, t = u + 1 := ⟨t - 1, by omega⟩
  rw [nI_pred, pk_sub (by omega)]
  congr 1
  omega
theorem ow_lt : ∀ t, t < 7 → (nI t - 1 < 0 ↔ t = 0) := by decide
theorem lp_Sp_owned (dy : List mm_Sh) (g P : Nat → Nat → Int32) (r : (Nat → Nat → Int64) × Nat × (Nat → Int32)) (hP : nr_ g = P) {T : sp_T} {c : sp_C} {b : Nat} (hL : rl_L T P) (hc : sp_ok c) (hb : b < 6) (htb : ∀ l, l < T.1 → c.2 l ≤ b + 1) : ∀ (n k : Nat), k + n = T.1 → mm_W 5 M_Sp_owned 0 0 (fun v h' => v = some (.int (nI (sp_has T c.2 b))) ∧ h' = (hp_SH ++ dy, g, r)) 0 0 (5, [some (.ref 1), some (.int (nI (sp_enc c))), some (.int (nI b)), some (.int (nI (sp_bits T c.2 b k))), some (.int (nI k)), none], [], (hp_SH ++ dy, g, r)) := by
  have h4 : T.1 ≤ 4 := hL.2.1
  have e20 : g 2 0 = nI T.1 := by rw [nr_at hP 2 0 rfl]; exact hL.1
  intro n
  induction n with
  | zero =>
    intro k hk
    refine mm_B ok_Sp_owned 4 4 (14, [some (.ref 1), some (.int (nI (sp_enc c))), some (.int (nI b)), some (.int (nI (sp_bits T c.2 b k))), some (.int (nI k)), none], [.int (g 2 0), .int (nI k)], (hp_SH ++ dy, g, r)) [] rfl trivial ?_
    rw [e20]
    refine mm_I ok_Sp_owned 8 0 14 [some (.ref 1), some (.int (nI (sp_enc c))), some (.int (nI b)), some (.int (nI (sp_bits T c.2 b k))), some (.int (nI k)), none] [.int (nI T.1), .int (nI k)] (hp_SH ++ dy, g, r) [] rfl trivial rfl rfl (fun _ => ?_) (fun q => False.elim (q (nI_le (by omega) (by omega))))
    refine mm_B ok_Sp_owned 36 1 (70, [some (.ref 1), some (.int (nI (sp_enc c))), some (.int (nI b)), some (.int (nI (sp_bits T c.2 b k))), some (.int (nI k)), none], [.int (nI (sp_bits T c.2 b k))], (hp_SH ++ dy, g, r)) [] rfl trivial ?_
    have ek : k = T.1 := by omega
    rw [ek]
    exact mm_ri rfl (mm_at ok_Sp_owned (i := 37) rfl).1 ⟨Nat.le_refl _, Nat.le_refl _⟩ (⟨rfl, rfl⟩)
  | succ n ih =>
    intro k hk
    have hkL : k < T.1 := by omega
    have hk4 : k < 4 := by omega
    obtain ⟨-, h6, h4k, h9', -⟩ := hL.2.2.1 k hkL
    have h9 : T.2.2.1 k < 10 := by omega
    have hd8 : b + 1 - c.2 k < 8 := by omega
    have ht7 : c.2 k < 7 := (hc k hk4).2
    have e4 : g 4 (nI k).toNatClampNeg = nI (T.2.2.1 k) := by rw [nI_clamp (by omega), nr_at hP 4 k rfl]; exact h4k
    refine mm_B ok_Sp_owned 4 4 (14, [some (.ref 1), some (.int (nI (sp_enc c))), some (.int (nI b)), some (.int (nI (sp_bits T c.2 b k))), some (.int (nI k)), none], [.int (g 2 0), .int (nI k)], (hp_SH ++ dy, g, r)) [] rfl trivial ?_
    rw [e20]
    refine mm_I ok_Sp_owned 8 0 14 [some (.ref 1), some (.int (nI (sp_enc c))), some (.int (nI b)), some (.int (nI (sp_bits T c.2 b k))), some (.int (nI k)), none] [.int (nI T.1), .int (nI k)] (hp_SH ++ dy, g, r) [] rfl trivial rfl rfl (fun q => False.elim (nI_ge (show k < T.1 by omega) (by omega) q)) (fun _ => ?_)
    refine mm_B ok_Sp_owned 9 2 (20, [some (.ref 1), some (.int (nI (sp_enc c))), some (.int (nI b)), some (.int (nI (sp_bits T c.2 b k))), some (.int (nI k)), none], [.int (nI k), .int (nI (sp_enc c))], (hp_SH ++ dy, g, r)) [] rfl trivial ?_
    refine mm_cS (as := [.int (nI (sp_enc c)), .int (nI k)]) (st := []) cw_Sp_lastUnderstood lk_Sp_69 sx_Sp_lastUnderstood (mm_at ok_Sp_owned (i := 11) rfl).1 (ct_Sp_lastUnderstood (hp_SH ++ dy, g, r) (nI (sp_enc c)) (nI k)) (by decide) ⟨by omega, by omega⟩ (Nat.le_of_ble_eq_true rfl) (mm_vs_b (b := 77) rfl (hp_len dy)) (fun v h' hqq => ?_)
    obtain ⟨rfl, hqe⟩ := hqq; rw [hqe]
    refine mm_B ok_Sp_owned 12 2 (27, [some (.ref 1), some (.int (nI (sp_enc c))), some (.int (nI b)), some (.int (nI (sp_bits T c.2 b k))), some (.int (nI k)), some (.int (f_Sp_lastUnderstood (nI (sp_enc c)) (nI k)))], [.int (f_Sp_lastUnderstood (nI (sp_enc c)) (nI k))], (hp_SH ++ dy, g, r)) [] rfl trivial ?_
    rw [me_last hc hk4]
    refine mm_I ok_Sp_owned 14 0 27 [some (.ref 1), some (.int (nI (sp_enc c))), some (.int (nI b)), some (.int (nI (sp_bits T c.2 b k))), some (.int (nI k)), some (.int (nI (c.2 k) - 1))] [.int (nI (c.2 k) - 1)] (hp_SH ++ dy, g, r) [] rfl trivial rfl rfl (fun h1 => ?_) (fun h1 => ?_)
    · have h1 := (ow_lt _ ht7).mp h1
      refine mm_B ok_Sp_owned 34 2 (5, [some (.ref 1), some (.int (nI (sp_enc c))), some (.int (nI b)), some (.int (nI (sp_bits T c.2 b k))), some (.int ((nI k) + 1)), some (.int (nI (c.2 k) - 1))], [], (hp_SH ++ dy, g, r)) [] rfl trivial ?_
      rw [nI_1]
      have e9 : sp_bits T c.2 b (k + 1) = sp_bits T c.2 b k := by simp [sp_bits, sp_hs, h1]
      refine mm_fg [5] ?_
      have h8 := ih (k + 1) (by omega)
      rw [e9] at h8
      exact h8
    · have h1 : c.2 k ≠ 0 := fun e => h1 ((ow_lt _ ht7).mpr e)
      refine mm_B ok_Sp_owned 15 2 (33, [some (.ref 1), some (.int (nI (sp_enc c))), some (.int (nI b)), some (.int (nI (sp_bits T c.2 b k))), some (.int (nI k)), some (.int (nI (c.2 k) - 1))], [.int (nI k), .ref 1], (hp_SH ++ dy, g, r)) [] rfl trivial ?_
      refine mm_cV (as := [.int (nI k)]) (st := []) (q := 1) cw_Sp_kindOf lk_Sp_73 in_Sp_kindOf sl_Sp_kindOf rfl rfl (mm_at ok_Sp_owned (i := 17) rfl).1 (ct_Sp_kindOf dy g P r hP hL hkL) (by decide) ⟨by omega, by omega⟩ (Nat.le_of_ble_eq_true rfl) (mm_vs_b (b := 77) rfl (hp_len dy)) (fun v h' hqq => ?_)
      obtain ⟨rfl, hqe⟩ := hqq; rw [hqe]
      refine mm_B ok_Sp_owned 18 8 (50, [some (.ref 1), some (.int (nI (sp_enc c))), some (.int (nI b)), some (.int (nI (sp_bits T c.2 b k))), some (.int (nI k)), some (.int (nI (c.2 k) - 1))], [.int ((nI b) - (nI (c.2 k) - 1)), .int (g 4 ((nI k).toNatClampNeg)), .ref (19 + T.2.1 k)], (hp_SH ++ dy, g, r)) [vp_in (nI k) 4] rfl (show vp_in (nI k) 4 from (nI_vi hk4 (by decide))) ?_
      rw [e4]
      rw [ow_sub h1 (htb k hkL)]
      refine vc_keeps (k := T.2.1 k) h6 lk_Sp_80 (mm_at ok_Sp_owned (i := 26) rfl).1 (by decide) ⟨Nat.le_refl _, Nat.le_refl _⟩ (Nat.le_of_ble_eq_true rfl) (mm_vs_b (b := 77) rfl (hp_len dy)) ?_
      rw [vn_keeps _ h6 _ h9 _ hd8]
      by_cases hkp : sp_kp (T.2.1 k) (T.2.2.1 k) (b + 1 - c.2 k) = true
      · rw [if_pos hkp]
        refine mm_I ok_Sp_owned 27 0 53 [some (.ref 1), some (.int (nI (sp_enc c))), some (.int (nI b)), some (.int (nI (sp_bits T c.2 b k))), some (.int (nI k)), some (.int (nI (c.2 k) - 1))] [.int 1] (hp_SH ++ dy, g, r) [] rfl trivial rfl rfl (fun q => False.elim (absurd q (by decide))) (fun _ => ?_)
        refine mm_B ok_Sp_owned 28 8 (5, [some (.ref 1), some (.int (nI (sp_enc c))), some (.int (nI b)), some (.int ((nI (sp_bits T c.2 b k)) ||| (1 <<< ((nI k) &&& 31)))), some (.int ((nI k) + 1)), some (.int (nI (c.2 k) - 1))], [], (hp_SH ++ dy, g, r)) [] rfl trivial ?_
        rw [nI_1, bt_bit k hk4 _ (sp_bits_lt T c.2 b k)]
        have e9 : sp_bits T c.2 b (k + 1) = sp_bits T c.2 b k + 2 ^ k := by simp [sp_bits, sp_hs, sp_keeps, hkp, h1]
        refine mm_fg [5] ?_
        have h8 := ih (k + 1) (by omega)
        rw [e9] at h8
        exact h8
      · rw [if_neg hkp]
        refine mm_I ok_Sp_owned 27 0 53 [some (.ref 1), some (.int (nI (sp_enc c))), some (.int (nI b)), some (.int (nI (sp_bits T c.2 b k))), some (.int (nI k)), some (.int (nI (c.2 k) - 1))] [.int 0] (hp_SH ++ dy, g, r) [] rfl trivial rfl rfl (fun _ => ?_) (fun q => False.elim (q rfl))
        refine mm_B ok_Sp_owned 34 2 (5, [some (.ref 1), some (.int (nI (sp_enc c))), some (.int (nI b)), some (.int (nI (sp_bits T c.2 b k))), some (.int ((nI k) + 1)), some (.int (nI (c.2 k) - 1))], [], (hp_SH ++ dy, g, r)) [] rfl trivial ?_
        rw [nI_1]
        have e9 : sp_bits T c.2 b (k + 1) = sp_bits T c.2 b k := by simp [sp_bits, sp_hs, sp_keeps, hkp]
        refine mm_fg [5] ?_
        have h8 := ih (k + 1) (by omega)
        rw [e9] at h8
        exact h8
theorem ct_Sp_owned (dy : List mm_Sh) (g P : Nat → Nat → Int32) (r : (Nat → Nat → Int64) × Nat × (Nat → Int32)) (hP : nr_ g = P) {T : sp_T} {c : sp_C} {b : Nat} (hL : rl_L T P) (hc : sp_ok c) (hb : b < 6) (htb : ∀ l, l < T.1 → c.2 l ≤ b + 1) : mm_Ct 5 M_Sp_owned [.ref 1, .int (nI (sp_enc c)), .int (nI b)] (hp_SH ++ dy, g, r) 0 0 (fun v h' => v = some (.int (nI (sp_has T c.2 b))) ∧ h' = (hp_SH ++ dy, g, r)) := by
  refine mm_start pl_Sp (Nat.le_of_ble_eq_true rfl) ?_
  refine mm_B ok_Sp_owned 0 4 (5, [some (.ref 1), some (.int (nI (sp_enc c))), some (.int (nI b)), some (.int 0), some (.int 0), none], [], (hp_SH ++ dy, g, r)) [] rfl trivial ?_
  exact lp_Sp_owned dy g P r hP hL hc hb htb T.1 0 (by omega)

