/-! ===== the program's calls: chance ===== -/
theorem cd_go (h : mm_Hp) {a n : Nat} (hn : n ≤ 20) (ha : a ≤ 20) (hn1 : 0 < n) : ∀ d, d ≤ n → 0 < d → (∀ e, d < e → e ≤ n → ¬ (a % e = 0 ∧ n % e = 0)) → mm_W 1 M_Sc_commonDivisor 0 0 (fun v h' => v = some (.int (nI (Nat.gcd a n))) ∧ h' = h) 0 0 (2, [some (.int (nI a)), some (.int (nI n)), some (.int (nI d))], [], h) := by
  have hg0 : 0 < Nat.gcd a n := Nat.gcd_pos_of_pos_right a hn1
  have hgn : Nat.gcd a n ≤ n := Nat.gcd_le_right a hn1
  have hga : a % Nat.gcd a n = 0 := Nat.mod_eq_zero_of_dvd (Nat.gcd_dvd_left a n)
  have hgb : n % Nat.gcd a n = 0 := Nat.mod_eq_zero_of_dvd (Nat.gcd_dvd_right a n)
  intro d
  induction d with
  | zero => intro _ h0; omega
  | succ d ih =>
    intro hd _ hno
    have hle : Nat.gcd a n ≤ d + 1 := by
      rcases Nat.lt_or_ge (d + 1) (Nat.gcd a n) with h | h
      · exact absurd ⟨hga, hgb⟩ (hno _ h hgn)
      · exact h
    have e1 : nI a - nI a / nI (d + 1) * nI (d + 1) = nI (a % (d + 1)) := nI_mod (by omega) (by omega)
    have e2 : nI n - nI n / nI (d + 1) * nI (d + 1) = nI (n % (d + 1)) := nI_mod (by omega) (by omega)
    have hm1 := Nat.mod_lt a (show 0 < d + 1 by omega)
    have hm2 := Nat.mod_lt n (show 0 < d + 1 by omega)
    rcases Nat.eq_zero_or_pos d with h0 | h0
    · have hge : Nat.gcd a n = 1 := by omega
      rw [hge]
      refine mm_I ok_Sc_commonDivisor 2 2 4 [some (.int (nI a)), some (.int (nI n)), some (.int (nI (d + 1)))] [.int 1, .int (nI (d + 1))] h [] rfl trivial rfl rfl (fun _ => ?_) (fun q => False.elim (q (by rw [h0]; decide)))
      refine mm_B ok_Sc_commonDivisor 17 1 (28, [some (.int (nI a)), some (.int (nI n)), some (.int (nI (d + 1)))], [.int 1], h) [] rfl trivial ?_
      exact mm_ri rfl (mm_at ok_Sc_commonDivisor (i := 18) rfl).1 ⟨Nat.le_refl _, Nat.le_refl _⟩ (⟨rfl, rfl⟩)
    · have hnx : ¬ (a % (d + 1) = 0 ∧ n % (d + 1) = 0) → mm_W 1 M_Sc_commonDivisor 0 0 (fun v h' => v = some (.int (nI (Nat.gcd a n))) ∧ h' = h) 0 0 (2, [some (.int (nI a)), some (.int (nI n)), some (.int (nI d))], [], h) := fun hne => ih (by omega) h0 (fun e h1 h2 => by
        rcases Nat.lt_or_ge (d + 1) e with h | h
        · exact hno e h h2
        · rw [show e = d + 1 by omega]; exact hne)
      have e3 : nI (d + 1) + (-1) = nI d := by rw [pm1, nI_pred]
      refine mm_I ok_Sc_commonDivisor 2 2 4 [some (.int (nI a)), some (.int (nI n)), some (.int (nI (d + 1)))] [.int 1, .int (nI (d + 1))] h [] rfl trivial rfl rfl (fun q => False.elim (absurd ((nI_leI (b := 1) (by omega) (by decide)).mp q) (by omega))) (fun _ => ?_)
      refine mm_B ok_Sc_commonDivisor 5 3 (10, [some (.int (nI a)), some (.int (nI n)), some (.int (nI (d + 1)))], [.int ((nI a) - (nI a) / (nI (d + 1)) * (nI (d + 1)))], h) [¬ (nI (d + 1)) = 0] rfl (show ¬ (nI (d + 1)) = 0 from (nI_ne0 (by omega) (by omega))) ?_
      rw [e1]
      refine mm_I ok_Sc_commonDivisor 8 0 10 [some (.int (nI a)), some (.int (nI n)), some (.int (nI (d + 1)))] [.int (nI (a % (d + 1)))] h [] rfl trivial rfl rfl (fun h1 => ?_) (fun h1 => ?_)
      · refine mm_B ok_Sc_commonDivisor 15 2 (2, [some (.int (nI a)), some (.int (nI n)), some (.int ((nI (d + 1)) + (-1)))], [], h) [] rfl trivial ?_
        rw [e3]
        exact hnx (fun q => h1 (by rw [q.1]; rfl))
      · have h1 := (nI_eq (b := 0) (by omega) (by decide)).mp h1
        refine mm_B ok_Sc_commonDivisor 9 3 (16, [some (.int (nI a)), some (.int (nI n)), some (.int (nI (d + 1)))], [.int ((nI n) - (nI n) / (nI (d + 1)) * (nI (d + 1)))], h) [¬ (nI (d + 1)) = 0] rfl (show ¬ (nI (d + 1)) = 0 from (nI_ne0 (by omega) (by omega))) ?_
        rw [e2]
        refine mm_I ok_Sc_commonDivisor 12 0 16 [some (.int (nI a)), some (.int (nI n)), some (.int (nI (d + 1)))] [.int (nI (n % (d + 1)))] h [] rfl trivial rfl rfl (fun h2 => ?_) (fun h2 => ?_)
        · refine mm_B ok_Sc_commonDivisor 15 2 (2, [some (.int (nI a)), some (.int (nI n)), some (.int ((nI (d + 1)) + (-1)))], [], h) [] rfl trivial ?_
          rw [e3]
          exact hnx (fun q => h2 (by rw [q.2]; rfl))
        · have h2 := (nI_eq (b := 0) (by omega) (by decide)).mp h2
          have hdv : (d + 1) ∣ Nat.gcd a n := Nat.dvd_gcd (Nat.dvd_of_mod_eq_zero h1) (Nat.dvd_of_mod_eq_zero h2)
          have := Nat.le_of_dvd hg0 hdv
          have hge : Nat.gcd a n = d + 1 := by omega
          rw [hge]
          refine mm_B ok_Sc_commonDivisor 13 1 (20, [some (.int (nI a)), some (.int (nI n)), some (.int (nI (d + 1)))], [.int (nI (d + 1))], h) [] rfl trivial ?_
          exact mm_ri rfl (mm_at ok_Sc_commonDivisor (i := 14) rfl).1 ⟨Nat.le_refl _, Nat.le_refl _⟩ (⟨rfl, rfl⟩)
theorem ct_Sc_commonDivisor (h : mm_Hp) {a n : Nat} (hn : n ≤ 20) (ha : a ≤ 20) (hn1 : 0 < n) : mm_Ct 1 M_Sc_commonDivisor [.int (nI a), .int (nI n)] h 0 0 (fun v h' => v = some (.int (nI (Nat.gcd a n))) ∧ h' = h) := by
  refine mm_start pl_Sc (Nat.le_of_ble_eq_true rfl) ?_
  refine mm_B ok_Sc_commonDivisor 0 2 (2, [some (.int (nI a)), some (.int (nI n)), some (.int (nI n))], [], h) [] rfl trivial ?_
  exact cd_go h hn ha hn1 n (Nat.le_refl n) hn1 (fun e h1 h2 => by omega)
def nk_ (x : Int32) : Option Nat := if x < 1 then none else ix_ 21 x
theorem nk_some {x : Int32} {n : Nat} (h : nk_ x = some n) : 0 < n ∧ n ≤ 20 ∧ x = nI n ∧ ¬ x < 1 := by
  unfold nk_ at h
  split at h
  · cases h
  · rename_i h1
    obtain ⟨h2, rfl⟩ := ix_some (by decide) h
    refine ⟨?_, by omega, rfl, h1⟩
    rcases Nat.eq_zero_or_pos n with h0 | h0
    · subst h0; exact absurd (show nI 0 < 1 by decide) h1
    · exact h0
theorem nk_none {x : Int32} (h : nk_ x = none) : x < 1 ∨ 20 < x := by
  unfold nk_ at h
  split at h
  · exact Or.inl ‹_›
  · rename_i h1
    rcases g1_n (n := 20) (by decide) h with h2 | h2
    · exact Or.inl (Int32.lt_trans h2 (by decide))
    · exact Or.inr h2
noncomputable def lk_ (A : sA) (s w : Int32) (l : Nat) : Nat → Nat
  | 0 => 0
  | k + 1 => if sp_sum (sp_whb A.1 (aC A) A.2.1 (dr_ A.2.2.1.1 (s + nI k) w) l) A.2.1.1 = 2 ^ A.2.1.1 - 1 then lk_ A s w l k + 1 else lk_ A s w l k
theorem lk_le {A : sA} {s w : Int32} {l : Nat} : ∀ n, lk_ A s w l n ≤ n
  | 0 => Nat.le_refl 0
  | n + 1 => by
    have := lk_le (A := A) (s := s) (w := w) (l := l) n
    unfold lk_
    split <;> omega
noncomputable def an_chance (A : sA) (s n w l p : Int32) : Int64 := match nk_ n, ix_ 11 w, ix_ A.1.1 l, ix_ 2 p with
  | some n, some w, some l, some p => if p = 0 then lN (lk_ A s (nI w) l n / Nat.gcd (lk_ A s (nI w) l n) n) else lN (n / Nat.gcd (lk_ A s (nI w) l n) n)
  | _, _, _, _ => -4611686018427387904
theorem ch_go (dy : List mm_Sh) (g : Nat → Nat → Int32) (r : (Nat → Nat → Int64) × Nat × (Nat → Int32)) {A : sA} (hI : CI dy (nr_ g) A) (hSI : SI A) {n w l p : Nat} {s : Int32} (hn1 : 0 < n) (hn : n ≤ 20) (hl : l < A.1.1) (hp : p < 2) (x : Int64) (hx : x = (if p = 0 then lN (lk_ A s (nI w) l n / Nat.gcd (lk_ A s (nI w) l n) n) else lN (n / Nat.gcd (lk_ A s (nI w) l n) n))) : ∀ (m k : Nat) (g1 : Nat → Nat → Int32), k + m = n → fr_ d43 g g1 → mm_W 12 M_Sc_chance 0 0 (RC dy g r A (.long x)) 0 0 (64, [some (.ref 0), some (.int s), some (.int (nI n)), some (.int (nI w)), some (.int (nI l)), some (.int (nI p)), some (.int (nI (2 ^ A.2.1.1 - 1))), some (.int (nI (lk_ A s (nI w) l k))), some (.int (nI k))], [], (hp_SH ++ dy, g1, r)) := by
  have hI' := hI
  obtain ⟨hL, hK, hPl, hX, hB, hS, hIm, hFd, hW⟩ := hI'
  have hR := cX_R hX
  have h4 := hL.2.1
  have h6 := hK.2.1
  have h64 := p2_64 h6
  have hpo : ∀ b l, b < 6 → A.2.2.1.1 b = some l → l < A.1.1 := fun b l hb h => hSI.1 b l hb (Or.inl h)
  intro m
  induction m with
  | zero =>
    intro k g1 hk hF
    rw [show k = n by omega]
    have hlk := lk_le (A := A) (s := s) (w := nI w) (l := l) n
    generalize hst : lk_ A s (nI w) l n = a at hlk hx ⊢
    have hg0 : 0 < Nat.gcd a n := Nat.gcd_pos_of_pos_right a hn1
    have hgn : Nat.gcd a n ≤ n := Nat.gcd_le_right a hn1
    have hd1 := Nat.div_le_self a (Nat.gcd a n)
    have hd2 := Nat.div_le_self n (Nat.gcd a n)
    refine mm_I ok_Sc_chance 33 2 67 [some (.ref 0), some (.int s), some (.int (nI n)), some (.int (nI w)), some (.int (nI l)), some (.int (nI p)), some (.int (nI (2 ^ A.2.1.1 - 1))), some (.int (nI a)), some (.int (nI n))] [.int (nI n), .int (nI n)] (hp_SH ++ dy, g1, r) [] rfl trivial rfl rfl (fun _ => ?_) (fun q => False.elim (q (nI_le (Nat.le_refl n) (by omega))))
    refine mm_B ok_Sc_chance 52 2 (106, [some (.ref 0), some (.int s), some (.int (nI n)), some (.int (nI w)), some (.int (nI l)), some (.int (nI p)), some (.int (nI (2 ^ A.2.1.1 - 1))), some (.int (nI a)), some (.int (nI n))], [.int (nI n), .int (nI a)], (hp_SH ++ dy, g1, r)) [] rfl trivial ?_
    refine mm_cS (as := [.int (nI a), .int (nI n)]) (st := []) cw_Sc_commonDivisor lk_Sc_254 sx_Sc_commonDivisor (mm_at ok_Sc_chance (i := 54) rfl).1 (ct_Sc_commonDivisor (hp_SH ++ dy, g1, r) hn (by omega) hn1) (by decide) ⟨by omega, by omega⟩ (Nat.le_of_ble_eq_true rfl) (mm_vs_b (b := 77) rfl (hp_len dy)) (fun v h' hqq => ?_)
    obtain ⟨rfl, hqe⟩ := hqq; rw [hqe]
    by_cases hp0 : p = 0
    · subst hp0
      rw [if_pos rfl] at hx
      rw [hx]
      refine mm_I ok_Sc_chance 55 2 113 [some (.ref 0), some (.int s), some (.int (nI n)), some (.int (nI w)), some (.int (nI l)), some (.int (nI 0)), some (.int (nI (2 ^ A.2.1.1 - 1))), some (.int (nI a)), some (.int (nI (Nat.gcd a n)))] [.int (nI 0)] (hp_SH ++ dy, g1, r) [] rfl trivial rfl rfl (fun q => False.elim (q rfl)) (fun _ => ?_)
      refine mm_B ok_Sc_chance 58 5 (130, [some (.ref 0), some (.int s), some (.int (nI n)), some (.int (nI w)), some (.int (nI l)), some (.int (nI 0)), some (.int (nI (2 ^ A.2.1.1 - 1))), some (.int (nI a)), some (.int (nI (Nat.gcd a n)))], [.long (((nI a) / (nI (Nat.gcd a n)))).toInt64], (hp_SH ++ dy, g1, r)) [¬ (nI (Nat.gcd a n)) = 0] rfl (show ¬ (nI (Nat.gcd a n)) = 0 from (nI_ne0 (by omega) (by omega))) ?_
      rw [nI_div (by omega) (by omega), nI_l (by omega)]
      exact mm_rl rfl (mm_at ok_Sc_chance (i := 67) rfl).1 ⟨Nat.le_refl _, Nat.le_refl _⟩ (RC_q rfl hI (hF.mono cz_43))
    · rw [if_neg hp0] at hx
      rw [hx]
      refine mm_I ok_Sc_chance 55 2 113 [some (.ref 0), some (.int s), some (.int (nI n)), some (.int (nI w)), some (.int (nI l)), some (.int (nI p)), some (.int (nI (2 ^ A.2.1.1 - 1))), some (.int (nI a)), some (.int (nI (Nat.gcd a n)))] [.int (nI p)] (hp_SH ++ dy, g1, r) [] rfl trivial rfl rfl (fun _ => ?_) (fun q => False.elim (nI_ne0 (by omega) (by omega) q))
      refine mm_B ok_Sc_chance 63 4 (130, [some (.ref 0), some (.int s), some (.int (nI n)), some (.int (nI w)), some (.int (nI l)), some (.int (nI p)), some (.int (nI (2 ^ A.2.1.1 - 1))), some (.int (nI a)), some (.int (nI (Nat.gcd a n)))], [.long (((nI n) / (nI (Nat.gcd a n)))).toInt64], (hp_SH ++ dy, g1, r)) [¬ (nI (Nat.gcd a n)) = 0] rfl (show ¬ (nI (Nat.gcd a n)) = 0 from (nI_ne0 (by omega) (by omega))) ?_
      rw [nI_div (by omega) (by omega), nI_l (by omega)]
      exact mm_rl rfl (mm_at ok_Sc_chance (i := 67) rfl).1 ⟨Nat.le_refl _, Nat.le_refl _⟩ (RC_q rfl hI (hF.mono cz_43))
  | succ m ih =>
    intro k g1 hk hF
    have ih' := ih (k + 1)
    rw [show lk_ A s (nI w) l (k + 1) = (if sp_sum (sp_whb A.1 (aC A) A.2.1 (dr_ A.2.2.1.1 (s + nI k) (nI w)) l) A.2.1.1 = 2 ^ A.2.1.1 - 1 then lk_ A s (nI w) l k + 1 else lk_ A s (nI w) l k) from rfl] at ih'
    generalize hst : lk_ A s (nI w) l k = a at ih' ⊢
    have hP1 := hF.nr d43_nr (rfl : nr_ g = nr_ g)
    refine mm_I ok_Sc_chance 33 2 67 [some (.ref 0), some (.int s), some (.int (nI n)), some (.int (nI w)), some (.int (nI l)), some (.int (nI p)), some (.int (nI (2 ^ A.2.1.1 - 1))), some (.int (nI a)), some (.int (nI k))] [.int (nI n), .int (nI k)] (hp_SH ++ dy, g1, r) [] rfl trivial rfl rfl (fun q => False.elim (nI_ge (show k < n by omega) (by omega) q)) (fun _ => ?_)
    refine mm_B ok_Sc_chance 36 5 (76, [some (.ref 0), some (.int s), some (.int (nI n)), some (.int (nI w)), some (.int (nI l)), some (.int (nI p)), some (.int (nI (2 ^ A.2.1.1 - 1))), some (.int (nI a)), some (.int (nI k))], [.int (nI w), .int (s + (nI k)), .ref 0], (hp_SH ++ dy, g1, r)) [] rfl trivial ?_
    refine mm_cV (as := [.int (s + (nI k)), .int (nI w)]) (st := []) (q := 0) cw_Sc_draw lk_Sc_248 in_Sc_draw sl_Sc_draw rfl rfl (mm_at ok_Sc_chance (i := 41) rfl).1 (ct_Sc_draw dy g1 (nr_ g) r hP1 (fun b hb => (hPl b hb).1) (s + nI k) (nI w)) (by decide) ⟨by omega, by omega⟩ (Nat.le_of_ble_eq_true rfl) (mm_vs_b (b := 77) rfl (hp_len dy)) (fun v h' hqq => ?_)
    obtain ⟨hqv, g2, hqe, hF1, hd⟩ := hqq; subst hqv; rw [hqe]
    have hF2 := hF.tr hF1
    refine mm_B ok_Sc_chance 42 4 (86, [some (.ref 0), some (.int s), some (.int (nI n)), some (.int (nI w)), some (.int (nI l)), some (.int (nI p)), some (.int (nI (2 ^ A.2.1.1 - 1))), some (.int (nI a)), some (.int (nI k))], [.ref 43, .int (nI l), .ref 0], (hp_SH ++ dy, g2, r)) [] rfl trivial ?_
    refine mm_cV (as := [.int (nI l), .ref 43]) (st := []) (q := 0) cw_Sc_whoHave lk_Sc_242 in_Sc_whoHave sl_Sc_whoHave rfl rfl (mm_at ok_Sc_chance (i := 46) rfl).1 (ct_Sc_whoHave dy g2 (nr_ g) r (hF2.nr d43_nr rfl) hR hL hK hl (pa := 43) ((hp_at dy (by decide)).trans rfl) (fun _ => rfl) hd (fun b l hb h => hpo b l hb (dr_le h))) (by decide) ⟨by omega, by omega⟩ (Nat.le_of_ble_eq_true rfl) (mm_vs_b (b := 77) rfl (hp_len dy)) (fun v h' hqq => ?_)
    obtain ⟨rfl, g3, hqe, hF3⟩ := hqq; rw [hqe]
    have hF4 := hF2.tr (hF3.mono d43_f1)
    have hsl := sp_sum_lt (sp_whb A.1 (aC A) A.2.1 (dr_ A.2.2.1.1 (s + nI k) (nI w)) l) sp_whb_or A.2.1.1
    refine mm_I ok_Sc_chance 47 1 91 [some (.ref 0), some (.int s), some (.int (nI n)), some (.int (nI w)), some (.int (nI l)), some (.int (nI p)), some (.int (nI (2 ^ A.2.1.1 - 1))), some (.int (nI a)), some (.int (nI k))] [.int (nI (2 ^ A.2.1.1 - 1)), .int (nI (sp_sum (sp_whb A.1 (aC A) A.2.1 (dr_ A.2.2.1.1 (s + nI k) (nI w)) l) A.2.1.1))] (hp_SH ++ dy, g3, r) [] rfl trivial rfl rfl (fun hq => ?_) (fun hq => ?_)
    · rw [if_neg (fun e => hq (by rw [e]))] at ih'
      refine mm_B ok_Sc_chance 50 2 (64, [some (.ref 0), some (.int s), some (.int (nI n)), some (.int (nI w)), some (.int (nI l)), some (.int (nI p)), some (.int (nI (2 ^ A.2.1.1 - 1))), some (.int (nI a)), some (.int ((nI k) + 1))], [], (hp_SH ++ dy, g3, r)) [] rfl trivial ?_
      rw [nI_1]
      exact ih' g3 (by omega) hF4
    · rw [if_pos ((nI_eq (by omega) (by omega)).mp hq)] at ih'
      refine mm_B ok_Sc_chance 49 3 (64, [some (.ref 0), some (.int s), some (.int (nI n)), some (.int (nI w)), some (.int (nI l)), some (.int (nI p)), some (.int (nI (2 ^ A.2.1.1 - 1))), some (.int ((nI a) + 1)), some (.int ((nI k) + 1))], [], (hp_SH ++ dy, g3, r)) [] rfl trivial ?_
      rw [nI_1, nI_1]
      exact ih' g3 (by omega) hF4
theorem cc_chance (dy : List mm_Sh) (g : Nat → Nat → Int32) (r : (Nat → Nat → Int64) × Nat × (Nat → Int32)) {A : sA} (hI : CI dy (nr_ g) A) (hSI : SI A) (s n w l p : Int32) : mm_Ct 12 M_Sc_chance [.ref 0, .int s, .int n, .int w, .int l, .int p] (hp_SH ++ dy, g, r) 0 0 (RC dy g r A (.long (an_chance A s n w l p))) := by
  have hI' := hI
  obtain ⟨hL, hK, hPl, hX, hB, hS, hIm, hFd, hW⟩ := hI'
  have h4 := hL.2.1
  have h6 := hK.2.1
  have h64 := p2_64 h6
  have e20 : g 2 0 = nI A.1.1 := by rw [← nr_eq g (k := 2) (j := 0) rfl]; exact hL.1
  have e21 : g 2 1 = nI A.2.1.1 := by rw [← nr_eq g (k := 2) (j := 1) rfl]; exact hK.1
  refine mm_start pl_Sc (Nat.le_of_ble_eq_true rfl) ?_
  cases hx1 : nk_ n with
  | none =>
    rw [show an_chance A s n w l p = -4611686018427387904 by unfold an_chance; rw [hx1]]
    rcases nk_none hx1 with hr | hr
    · refine mm_I ok_Sc_chance 0 2 2 [some (.ref 0), some (.int s), some (.int n), some (.int w), some (.int l), some (.int p), none, none, none] [.int 1, .int n] (hp_SH ++ dy, g, r) [] rfl trivial rfl rfl (fun _ => ?_) (fun q => False.elim (q hr))
      refine mm_B ok_Sc_chance 18 1 (41, [some (.ref 0), some (.int s), some (.int n), some (.int w), some (.int l), some (.int p), none, none, none], [.long (-4611686018427387904)], (hp_SH ++ dy, g, r)) [] rfl trivial ?_
      exact mm_rl rfl (mm_at ok_Sc_chance (i := 19) rfl).1 ⟨Nat.le_refl _, Nat.le_refl _⟩ (RC_q rfl hI fr_.rf)
    · refine mm_I ok_Sc_chance 0 2 2 [some (.ref 0), some (.int s), some (.int n), some (.int w), some (.int l), some (.int p), none, none, none] [.int 1, .int n] (hp_SH ++ dy, g, r) [] rfl trivial rfl rfl (fun q => False.elim (absurd (Int32.lt_trans hr q) (by decide))) (fun _ => ?_)
      refine mm_I ok_Sc_chance 3 2 8 [some (.ref 0), some (.int s), some (.int n), some (.int w), some (.int l), some (.int p), none, none, none] [.int 20, .int n] (hp_SH ++ dy, g, r) [] rfl trivial rfl rfl (fun _ => ?_) (fun q => False.elim (q hr))
      refine mm_B ok_Sc_chance 18 1 (41, [some (.ref 0), some (.int s), some (.int n), some (.int w), some (.int l), some (.int p), none, none, none], [.long (-4611686018427387904)], (hp_SH ++ dy, g, r)) [] rfl trivial ?_
      exact mm_rl rfl (mm_at ok_Sc_chance (i := 19) rfl).1 ⟨Nat.le_refl _, Nat.le_refl _⟩ (RC_q rfl hI fr_.rf)
  | some nn =>
    obtain ⟨hn1, hn2, rfl, hn3⟩ := nk_some hx1
    refine mm_I ok_Sc_chance 0 2 2 [some (.ref 0), some (.int s), some (.int (nI nn)), some (.int w), some (.int l), some (.int p), none, none, none] [.int 1, .int (nI nn)] (hp_SH ++ dy, g, r) [] rfl trivial rfl rfl (fun q => False.elim (hn3 q)) (fun _ => ?_)
    refine mm_I ok_Sc_chance 3 2 8 [some (.ref 0), some (.int s), some (.int (nI nn)), some (.int w), some (.int l), some (.int p), none, none, none] [.int 20, .int (nI nn)] (hp_SH ++ dy, g, r) [] rfl trivial rfl rfl (fun q => False.elim (absurd q (Int32.not_lt.mpr (nI_le (b := 20) (by omega) (by decide))))) (fun _ => ?_)
    refine mm_B ok_Sc_chance 6 1 (12, [some (.ref 0), some (.int s), some (.int (nI nn)), some (.int w), some (.int l), some (.int p), none, none, none], [.int w], (hp_SH ++ dy, g, r)) [] rfl trivial ?_
    refine mm_cS (as := [.int w]) (st := []) cw_Sc_isWater lk_Sc_245 sx_Sc_isWater (mm_at ok_Sc_chance (i := 7) rfl).1 (ct_Sc_isWater (hp_SH ++ dy, g, r) w) (by decide) ⟨by omega, by omega⟩ (Nat.le_of_ble_eq_true rfl) (mm_vs_b (b := 77) rfl (hp_len dy)) (fun v h' hqq => ?_)
    obtain ⟨rfl, hqe⟩ := hqq; rw [hqe]
    rw [wx_ w]
    cases hx2 : ix_ 11 w with
    | none =>
      rw [show an_chance A s (nI nn) w l p = -4611686018427387904 by unfold an_chance; rw [hx1, hx2]]
      refine mm_I ok_Sc_chance 8 0 15 [some (.ref 0), some (.int s), some (.int (nI nn)), some (.int w), some (.int l), some (.int p), none, none, none] [.int (iz_ none)] (hp_SH ++ dy, g, r) [] rfl trivial rfl rfl (fun _ => ?_) (fun q => False.elim (q rfl))
      refine mm_B ok_Sc_chance 18 1 (41, [some (.ref 0), some (.int s), some (.int (nI nn)), some (.int w), some (.int l), some (.int p), none, none, none], [.long (-4611686018427387904)], (hp_SH ++ dy, g, r)) [] rfl trivial ?_
      exact mm_rl rfl (mm_at ok_Sc_chance (i := 19) rfl).1 ⟨Nat.le_refl _, Nat.le_refl _⟩ (RC_q rfl hI fr_.rf)
    | some ww =>
      obtain ⟨hw, rfl⟩ := ix_some (by decide) hx2
      refine mm_I ok_Sc_chance 8 0 15 [some (.ref 0), some (.int s), some (.int (nI nn)), some (.int (nI ww)), some (.int l), some (.int p), none, none, none] [.int (iz_ (some ww))] (hp_SH ++ dy, g, r) [] rfl trivial rfl rfl (fun q => False.elim (one0 q)) (fun _ => ?_)
      refine mm_B ok_Sc_chance 9 2 (21, [some (.ref 0), some (.int s), some (.int (nI nn)), some (.int (nI ww)), some (.int l), some (.int p), none, none, none], [.int l, .ref 0], (hp_SH ++ dy, g, r)) [] rfl trivial ?_
      refine mm_cV (as := [.int l]) (st := []) (q := 0) cw_Sc_isLesson lk_Sc_102 in_Sc_isLesson sl_Sc_isLesson rfl rfl (mm_at ok_Sc_chance (i := 11) rfl).1 (ct_Sc_isLesson dy g r l) (by decide) ⟨by omega, by omega⟩ (Nat.le_of_ble_eq_true rfl) (mm_vs_b (b := 77) rfl (hp_len dy)) (fun v h' hqq => ?_)
      obtain ⟨rfl, hqe⟩ := hqq; rw [hqe]
      rw [lx_ e20 l]
      cases hx3 : ix_ A.1.1 l with
      | none =>
        rw [show an_chance A s (nI nn) (nI ww) l p = -4611686018427387904 by unfold an_chance; rw [hx1, hx2, hx3]]
        refine mm_I ok_Sc_chance 12 0 24 [some (.ref 0), some (.int s), some (.int (nI nn)), some (.int (nI ww)), some (.int l), some (.int p), none, none, none] [.int (iz_ none)] (hp_SH ++ dy, g, r) [] rfl trivial rfl rfl (fun _ => ?_) (fun q => False.elim (q rfl))
        refine mm_B ok_Sc_chance 18 1 (41, [some (.ref 0), some (.int s), some (.int (nI nn)), some (.int (nI ww)), some (.int l), some (.int p), none, none, none], [.long (-4611686018427387904)], (hp_SH ++ dy, g, r)) [] rfl trivial ?_
        exact mm_rl rfl (mm_at ok_Sc_chance (i := 19) rfl).1 ⟨Nat.le_refl _, Nat.le_refl _⟩ (RC_q rfl hI fr_.rf)
      | some ll =>
        obtain ⟨hl, rfl⟩ := ix_some (by omega) hx3
        refine mm_I ok_Sc_chance 12 0 24 [some (.ref 0), some (.int s), some (.int (nI nn)), some (.int (nI ww)), some (.int (nI ll)), some (.int p), none, none, none] [.int (iz_ (some ll))] (hp_SH ++ dy, g, r) [] rfl trivial rfl rfl (fun q => False.elim (one0 q)) (fun _ => ?_)
        cases hx4 : ix_ 2 p with
        | none =>
          rw [show an_chance A s (nI nn) (nI ww) (nI ll) p = -4611686018427387904 by unfold an_chance; rw [hx1, hx2, hx3, hx4]]
          rcases g1_n (by decide) hx4 with hr | hr
          · refine mm_I ok_Sc_chance 13 1 29 [some (.ref 0), some (.int s), some (.int (nI nn)), some (.int (nI ww)), some (.int (nI ll)), some (.int p), none, none, none] [.int p] (hp_SH ++ dy, g, r) [] rfl trivial rfl rfl (fun _ => ?_) (fun q => False.elim (q hr))
            refine mm_B ok_Sc_chance 18 1 (41, [some (.ref 0), some (.int s), some (.int (nI nn)), some (.int (nI ww)), some (.int (nI ll)), some (.int p), none, none, none], [.long (-4611686018427387904)], (hp_SH ++ dy, g, r)) [] rfl trivial ?_
            exact mm_rl rfl (mm_at ok_Sc_chance (i := 19) rfl).1 ⟨Nat.le_refl _, Nat.le_refl _⟩ (RC_q rfl hI fr_.rf)
          · refine mm_I ok_Sc_chance 13 1 29 [some (.ref 0), some (.int s), some (.int (nI nn)), some (.int (nI ww)), some (.int (nI ll)), some (.int p), none, none, none] [.int p] (hp_SH ++ dy, g, r) [] rfl trivial rfl rfl (fun q => False.elim (absurd (Int32.lt_trans hr q) (by decide))) (fun _ => ?_)
            refine mm_I ok_Sc_chance 15 2 35 [some (.ref 0), some (.int s), some (.int (nI nn)), some (.int (nI ww)), some (.int (nI ll)), some (.int p), none, none, none] [.int 1, .int p] (hp_SH ++ dy, g, r) [] rfl trivial rfl rfl (fun q => False.elim (absurd hr (Int32.not_lt.mpr q))) (fun _ => ?_)
            refine mm_B ok_Sc_chance 18 1 (41, [some (.ref 0), some (.int s), some (.int (nI nn)), some (.int (nI ww)), some (.int (nI ll)), some (.int p), none, none, none], [.long (-4611686018427387904)], (hp_SH ++ dy, g, r)) [] rfl trivial ?_
            exact mm_rl rfl (mm_at ok_Sc_chance (i := 19) rfl).1 ⟨Nat.le_refl _, Nat.le_refl _⟩ (RC_q rfl hI fr_.rf)
        | some pp =>
          obtain ⟨hp, rfl⟩ := ix_some (by decide) hx4
          rw [show an_chance A s (nI nn) (nI ww) (nI ll) (nI pp) = (if pp = 0 then lN (lk_ A s (nI ww) ll nn / Nat.gcd (lk_ A s (nI ww) ll nn) nn) else lN (nn / Nat.gcd (lk_ A s (nI ww) ll nn) nn)) by unfold an_chance; rw [hx1, hx2, hx3, hx4]]
          refine mm_I ok_Sc_chance 13 1 29 [some (.ref 0), some (.int s), some (.int (nI nn)), some (.int (nI ww)), some (.int (nI ll)), some (.int (nI pp)), none, none, none] [.int (nI pp)] (hp_SH ++ dy, g, r) [] rfl trivial rfl rfl (fun q => False.elim (nI_pos (n := pp) (by omega) q)) (fun _ => ?_)
          refine mm_I ok_Sc_chance 15 2 35 [some (.ref 0), some (.int s), some (.int (nI nn)), some (.int (nI ww)), some (.int (nI ll)), some (.int (nI pp)), none, none, none] [.int 1, .int (nI pp)] (hp_SH ++ dy, g, r) [] rfl trivial rfl rfl (fun _ => ?_) (fun q => False.elim (q (nI_le (b := 1) (by omega) (by decide))))
          refine mm_B ok_Sc_chance 20 13 (64, [some (.ref 0), some (.int s), some (.int (nI nn)), some (.int (nI ww)), some (.int (nI ll)), some (.int (nI pp)), some (.int ((1 <<< ((g 2 1) &&& 31)) - 1)), some (.int 0), some (.int 0)], [], (hp_SH ++ dy, g, r)) [] rfl trivial ?_
          rw [e21, ev_6 _ h6]
          exact ch_go dy g r hI hSI hn1 hn2 hl hp _ rfl nn 0 g (Nat.zero_add _) fr_.rf

