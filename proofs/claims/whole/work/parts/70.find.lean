/-! ===== Search: visit, find ===== -/
theorem bd_ge0 {f : Nat → Nat × Nat → Nat × Nat} {M : Nat} (hf : ∀ d st, st.1 ≤ (f d st).1) (st : Nat × Nat) (h0 : M ≤ (f 0 st).1) : ∀ d, M ≤ (bd_ f (d + 1) st).1
  | 0 => h0
  | d + 1 => Nat.le_trans (bd_ge0 hf st h0 d) (hf (d + 1) _)
/-- the first b bends of the plan at hand -/
def tr_b (N : Nat) (g : Nat → Nat → Int32) (b x : Nat) : Prop := ∀ j, j < b → g 27 j = pl_c (dg0 (x / N ^ (b - 1 - j) % N))
theorem tr_st {N : Nat} {g : Nat → Nat → Int32} {b x d : Nat} (h : tr_b N g b x) (hd : d < N) : tr_b N (mm_up g 27 b (nI d - 1)) (b + 1) (x * N + d) := by
  intro j hj
  by_cases e : j = b
  · subst e
    rw [mm_up_at, show j + 1 - 1 - j = 0 by omega, Nat.pow_zero, Nat.div_one, (dm_ hd).2, pl_dg]
  · rw [mm_up_no e, h j (by omega), show b + 1 - 1 - j = (b - 1 - j) + 1 by omega, Nat.pow_succ, Nat.mul_comm (N ^ (b - 1 - j)) N, ← Nat.div_div_eq_div_mul, (dm_ hd).1]
theorem bu_lt {T : sp_T} {C : Nat → List Int32} {K : sp_K} {st : Nat × Nat} {x : Nat} (hW : wt6 T C K (T.1 + 1) x < 9999) (h : st.1 < 10000) : (bu_ (wt6 T C K (T.1 + 1)) st x).1 < 10000 := by
  unfold bu_
  split
  · show _ + 1 < _; omega
  · exact h
abbrev vi_IH (dy : List mm_Sh) (T : sp_T) (C : Nat → List Int32) (K : sp_K) (m b : Nat) : Prop := ∀ (x : Nat) (st : Nat × Nat) (g : Nat → Nat → Int32) (r : (Nat → Nat → Int64) × Nat × (Nat → Int32)), SB_ dy (nr_ g) T C K → mr_ T C K g b x → tr_b (T.1 + 1) g b x → nc_ C K.2.2.2 g → ng_ T C K.2.2.2 g → sr_ T g st → mm_Ct (8 + m) M_Se_visit [.ref 25, .ref 1, .int (nI b)] (hp_SH ++ dy, g, r) 0 0 (vs_Q dy g r T C K b (bf_ (wt6 T C K (T.1 + 1)) (T.1 + 1) m x st))
theorem ft_lo {b j : Nat} (hj : j < 6 * b) : ft_ b 28 j = false := by
  unfold ft_ fk_ f1_
  have h1 : Nat.ble (6 * b) j = false := by
    cases h : Nat.ble (6 * b) j with
    | false => rfl
    | true => have := Nat.le_of_ble_eq_true h; omega
  rw [h1]
  rfl
theorem vi_lp {dy : List mm_Sh} {T : sp_T} {C : Nat → List Int32} {K : sp_K} {m b : Nat} (hb : b + (m + 1) = 6) (IH : vi_IH dy T C K m (b + 1)) {x : Nat} {st : Nat × Nat} {g : Nat → Nat → Int32} {r : (Nat → Nat → Int64) × Nat × (Nat → Int32)} (hSB : SB_ dy (nr_ g) T C K) (hmr : mr_ T C K g b x) (htr : tr_b (T.1 + 1) g b x) : ∀ (e d : Nat) (g1 : Nat → Nat → Int32), d + e = T.1 + 1 → fr_ fv_ g g1 → (∀ j, j < 6 * (b + 1) → g1 28 j = g 28 j) → (∀ j, j < b → g1 27 j = g 27 j) → nc_ C K.2.2.2 g1 → ng_ T C K.2.2.2 g1 → sr_ T g1 (bd_ (fun d st => bf_ (wt6 T C K (T.1 + 1)) (T.1 + 1) m (x * (T.1 + 1) + d) st) d st) → mm_W (8 + (m + 1)) M_Se_visit 0 0 (vs_Q dy g r T C K b (bf_ (wt6 T C K (T.1 + 1)) (T.1 + 1) (m + 1) x st)) 0 0 (14, [some (.ref 25), some (.ref 1), some (.int (nI b)), some (.int (nI d - 1))], [], (hp_SH ++ dy, g1, r)) := by
  obtain ⟨hL0, -, -⟩ := SB_self hSB
  have h4 := hL0.2.1
  intro e
  induction e with
  | zero =>
    intro d g1 hd hF h28 h27 hnc hng hsr
    have hd : d = T.1 + 1 := hd
    obtain ⟨hL, hR, hK⟩ := SB_self (SB_fr hSB hF)
    have e20 : g1 2 0 = nI T.1 := by rw [nr_at (g := g1) rfl 2 0 rfl]; exact hL.1
    refine mm_B ok_Se_visit 9 4 (22, [some (.ref 25), some (.ref 1), some (.int (nI b)), some (.int (nI d - 1))], [.int (g1 2 0), .int (nI d - 1)], (hp_SH ++ dy, g1, r)) [] rfl trivial ?_
    rw [e20]
    refine mm_I ok_Se_visit 13 0 22 [some (.ref 25), some (.ref 1), some (.int (nI b)), some (.int (nI d - 1))] [.int (nI T.1), .int (nI d - 1)] (hp_SH ++ dy, g1, r) [] rfl trivial rfl rfl (fun _ => ?_) (fun q => False.elim (q ((d1_lt d (by omega) T.1 (by omega)).mpr (by omega))))
    rw [hd] at hsr
    exact mm_r0 rfl (mm_at ok_Se_visit (i := 36) rfl).1 ⟨Nat.le_refl _, Nat.le_refl _⟩ (⟨rfl, g1, rfl, hF, h28, h27, hnc, hng, hsr⟩)
  | succ e ih =>
    intro d g1 hd hF h28 h27 hnc hng hsr
    have hSB1 := SB_fr hSB hF
    obtain ⟨hL, hR, hK⟩ := SB_self hSB1
    have e20 : g1 2 0 = nI T.1 := by rw [nr_at (g := g1) rfl 2 0 rfl]; exact hL.1
    have hdT : d < T.1 + 1 := by omega
    have h6 := hK.2.1
    have hmr1 : mr_ T C K g1 b x := fun c hc => by rw [h28 _ (by omega)]; exact hmr c hc
    have htr1 : tr_b (T.1 + 1) g1 b x := fun j hj => by rw [h27 j hj]; exact htr j hj
    generalize hst : bd_ (fun d st => bf_ (wt6 T C K (T.1 + 1)) (T.1 + 1) m (x * (T.1 + 1) + d) st) d st = sd at hsr
    have hnx : bd_ (fun d st => bf_ (wt6 T C K (T.1 + 1)) (T.1 + 1) m (x * (T.1 + 1) + d) st) (d + 1) st = bf_ (wt6 T C K (T.1 + 1)) (T.1 + 1) m (x * (T.1 + 1) + d) sd := by rw [← hst]; rfl
    refine mm_B ok_Se_visit 9 4 (22, [some (.ref 25), some (.ref 1), some (.int (nI b)), some (.int (nI d - 1))], [.int (g1 2 0), .int (nI d - 1)], (hp_SH ++ dy, g1, r)) [] rfl trivial ?_
    rw [e20]
    refine mm_I ok_Se_visit 13 0 22 [some (.ref 25), some (.ref 1), some (.int (nI b)), some (.int (nI d - 1))] [.int (nI T.1), .int (nI d - 1)] (hp_SH ++ dy, g1, r) [] rfl trivial rfl rfl (fun q => False.elim (absurd ((d1_lt d (by omega) T.1 (by omega)).mp q) (by omega))) (fun _ => ?_)
    refine mm_B ok_Se_visit 14 4 (29, [some (.ref 25), some (.ref 1), some (.int (nI b)), some (.int (nI d - 1))], [.int (nI d - 1), .int (nI b), .ref 1, .ref 25], (hp_SH ++ dy, g1, r)) [] rfl trivial ?_
    refine mm_cV (as := [.ref 1, .int (nI b), .int (nI d - 1)]) (st := []) (q := 25) cw_Se_step lk_Se_60 in_Se_step sl_Se_step rfl rfl (mm_at ok_Se_visit (i := 18) rfl).1 (ct_Se_step dy g1 (nr_ g1) r rfl hR hL hK (b := b) (x := x) (d := d) (by omega) hdT hnc hmr1) (by omega) ⟨by omega, by omega⟩ (Nat.le_of_ble_eq_true rfl) (mm_vs_b (b := 77) rfl (hp_len dy)) (fun v h' hqq => ?_)
    obtain ⟨z, rfl, hz, hz0, g2, hqe, hF2, h230, hnc2, hmr2⟩ := hqq; rw [hqe]
    have hf2 : fr_ fv_ g1 g2 := hF2.mono fv_ft
    have hF02 := hF.tr hf2
    have h28' : ∀ j, j < 6 * (b + 1) → g2 28 j = g 28 j := fun j hj => by
      have : ft_ (b + 1) 28 j = false := ft_lo hj
      rw [hF2 28 j this]; exact h28 j hj
    have h27' : ∀ j, g2 27 j = g1 27 j := fun j => hF2 27 j rfl
    have hng2 : ng_ T C K.2.2.2 g2 := ng_fr hng h230
    have hsr2 : sr_ T g2 sd := ⟨by rw [hF2 25 1 rfl]; exact hsr.1, hsr.2.1, fun h b hb => by rw [hF2 26 b rfl]; exact hsr.2.2 h b hb⟩
    have h40 : mm_W (8 + (m + 1)) M_Se_visit 0 0 (vs_Q dy g r T C K b (bf_ (wt6 T C K (T.1 + 1)) (T.1 + 1) (m + 1) x st)) 0 0 (40, [some (.ref 25), some (.ref 1), some (.int (nI b)), some (.int (nI d - 1))], [], (hp_SH ++ dy, g2, r)) := by
      refine mm_B ok_Se_visit 23 10 (52, [some (.ref 25), some (.ref 1), some (.int (nI b)), some (.int (nI d - 1))], [.int ((nI b) + 1), .ref 1, .ref 25], (hp_SH ++ dy, mm_up g2 27 ((nI b).toNatClampNeg) (nI d - 1), r)) [vp_in (nI b) 6] rfl (show vp_in (nI b) 6 from (nI_vi (by omega) (by decide))) ?_
      rw [nI_clamp (show b < 2 ^ 31 by omega), nI_1 b]
      obtain ⟨g3, hg3⟩ : ∃ y, y = mm_up g2 27 b (nI d - 1) := ⟨_, rfl⟩
      rw [← hg3]
      have hF3 : fr_ fv_ g g3 := by rw [hg3]; exact hF02.up _ rfl
      have hmr3 : mr_ T C K g3 (b + 1) (x * (T.1 + 1) + d) := fun c hc => by rw [hg3]; exact hmr2 c hc
      have htr3 : tr_b (T.1 + 1) g3 (b + 1) (x * (T.1 + 1) + d) := by
        rw [hg3]
        exact tr_st (fun j hj => by rw [h27']; exact htr1 j hj) hdT
      refine mm_cV (as := [.ref 1, .int (nI (b + 1))]) (st := []) (q := 25) cw_Se_visit lk_Se_41 in_Se_visit sl_Se_visit rfl rfl (mm_at ok_Se_visit (i := 33) rfl).1 (IH (x * (T.1 + 1) + d) sd g3 r (SB_fr hSB hF3) hmr3 htr3 (by rw [hg3]; exact nc_fr hnc2 (fun _ => rfl)) (by rw [hg3]; exact ng_fr hng2 (fun _ => rfl)) (by rw [hg3]; exact hsr2)) (by omega) ⟨by omega, by omega⟩ (Nat.le_of_ble_eq_true rfl) (mm_vs_b (b := 77) rfl (hp_len dy)) (fun v h' hqq => ?_)
      obtain ⟨rfl, g4, hqe, hF4, h428, h427, hnc4, hng4, hsr4⟩ := hqq; rw [hqe]
      refine mm_B ok_Se_visit 34 2 (14, [some (.ref 25), some (.ref 1), some (.int (nI b)), some (.int ((nI d - 1) + 1))], [], (hp_SH ++ dy, g4, r)) [] rfl trivial ?_
      rw [d1_inc]
      refine ih (d + 1) g4 (by omega) (hF3.tr hF4) (fun j hj => ?_) (fun j hj => ?_) hnc4 hng4 (by rw [hnx]; exact hsr4)
      · rw [h428 j (by omega), hg3]
        exact h28' j hj
      · rw [h427 j (by omega), hg3, mm_up_no (by omega), h27']
        exact h27 j hj
    rcases hz with hz | hz
    · rw [hz] at hz0 ⊢
      refine mm_I ok_Se_visit 19 0 32 [some (.ref 25), some (.ref 1), some (.int (nI b)), some (.int (nI d - 1))] [.int 0] (hp_SH ++ dy, g2, r) [] rfl trivial rfl rfl (fun q => False.elim (q rfl)) (fun _ => ?_)
      by_cases hd0 : d = 0
      · refine mm_I ok_Se_visit 20 2 37 [some (.ref 25), some (.ref 1), some (.int (nI b)), some (.int (nI d - 1))] [.int (-1), .int (nI d - 1)] (hp_SH ++ dy, g2, r) [] rfl trivial rfl rfl (fun q => False.elim (absurd ((m1_eq d (by omega)).mpr hd0) q)) (fun _ => ?_)
        exact h40
      · refine mm_I ok_Se_visit 20 2 37 [some (.ref 25), some (.ref 1), some (.int (nI b)), some (.int (nI d - 1))] [.int (-1), .int (nI d - 1)] (hp_SH ++ dy, g2, r) [] rfl trivial rfl rfl (fun _ => ?_) (fun q => False.elim (hd0 ((m1_eq d (by omega)).mp q)))
        refine mm_B ok_Se_visit 34 2 (14, [some (.ref 25), some (.ref 1), some (.int (nI b)), some (.int ((nI d - 1) + 1))], [], (hp_SH ++ dy, g2, r)) [] rfl trivial ?_
        rw [d1_inc]
        refine ih (d + 1) g2 (by omega) hF02 h28' (fun j hj => (h27' j).trans (h27 j hj)) hnc2 hng2 ?_
        have hno : bf_ (wt6 T C K (T.1 + 1)) (T.1 + 1) m (x * (T.1 + 1) + d) sd = sd := by
          refine bf_noop _ _ m _ sd (fun j hj => ?_)
          rw [skip_eq hdT (by omega) (hz0 rfl) j hj]
          have h0 := (bf_ge (wt6 T C K (T.1 + 1)) (T.1 + 1) m (x * (T.1 + 1) + 0) st).2 j hj
          obtain ⟨d', rfl⟩ : ∃ d', d = d' + 1 := ⟨d - 1, by omega⟩
          rw [← hst]
          exact bd_ge0 (f := fun d st => bf_ (wt6 T C K (T.1 + 1)) (T.1 + 1) m (x * (T.1 + 1) + d) st) (fun d st => (bf_ge _ _ m _ st).1) st h0 d'
        rw [hnx, hno]
        exact hsr2
    · rw [hz]
      refine mm_I ok_Se_visit 19 0 32 [some (.ref 25), some (.ref 1), some (.int (nI b)), some (.int (nI d - 1))] [.int 1] (hp_SH ++ dy, g2, r) [] rfl trivial rfl rfl (fun _ => ?_) (fun q => False.elim (absurd q (by decide)))
      exact h40
theorem ct_Se_visit (dy : List mm_Sh) {T : sp_T} {C : Nat → List Int32} {K : sp_K} : ∀ (m b : Nat), b + m = 6 → vi_IH dy T C K m b := by
  intro m
  induction m with
  | zero =>
    intro b hb x st g r hSB hmr htr hnc hng hsr
    have hb : b = 6 := hb
    subst hb
    obtain ⟨hL, hR, hK⟩ := SB_self hSB
    refine mm_start pl_Se (Nat.le_of_ble_eq_true rfl) ?_
    refine mm_I ok_Se_visit 0 2 3 [some (.ref 25), some (.ref 1), some (.int (nI 6)), none] [.int 6, .int (nI 6)] (hp_SH ++ dy, g, r) [] rfl trivial rfl rfl (fun q => False.elim (absurd (show nI 6 < (6 : Int32) from q) (by decide))) (fun _ => ?_)
    refine mm_B ok_Se_visit 3 2 (8, [some (.ref 25), some (.ref 1), some (.int (nI 6)), none], [.ref 1, .ref 25], (hp_SH ++ dy, g, r)) [] rfl trivial ?_
    refine mm_cV (as := [.ref 1]) (st := []) (q := 25) cw_Se_weigh lk_Se_45 in_Se_weigh sl_Se_weigh rfl rfl (mm_at ok_Se_visit (i := 5) rfl).1 (ct_Se_weigh dy g (nr_ g) r rfl hR hL hK (x := x) (st := st) hmr hsr (fun j hj => htr j hj) hnc hng) (by omega) ⟨by omega, by omega⟩ (Nat.le_of_ble_eq_true rfl) (mm_vs_b (b := 77) rfl (hp_len dy)) (fun v h' hqq => ?_)
    obtain ⟨rfl, hq9⟩ := hqq
    generalize h' = h9 at *
    exact mm_r0 rfl (mm_at ok_Se_visit (i := 6) rfl).1 ⟨Nat.le_refl _, Nat.le_refl _⟩ (⟨rfl, hq9⟩)
  | succ m ih =>
    intro b hb x st g r hSB hmr htr hnc hng hsr
    refine mm_start pl_Se (Nat.le_of_ble_eq_true rfl) ?_
    refine mm_I ok_Se_visit 0 2 3 [some (.ref 25), some (.ref 1), some (.int (nI b)), none] [.int 6, .int (nI b)] (hp_SH ++ dy, g, r) [] rfl trivial rfl rfl (fun _ => ?_) (fun q => False.elim (q (nI_lt (b := 6) (show b < 6 by omega) (by decide))))
    refine mm_B ok_Se_visit 7 2 (14, [some (.ref 25), some (.ref 1), some (.int (nI b)), some (.int (-1))], [], (hp_SH ++ dy, g, r)) [] rfl trivial ?_
    have h8 := vi_lp (r := r) hb (ih (b + 1) (by omega)) (x := x) (st := st) hSB hmr htr (T.1 + 1) 0 g (Nat.zero_add _) fr_.rf (fun _ _ => rfl) (fun _ _ => rfl) hnc hng hsr
    rw [show nI 0 - 1 = (-1 : Int32) by decide] at h8
    exact h8
/-- what find leaves -/
def fd_Q (dy : List mm_Sh) (g : Nat → Nat → Int32) (r : (Nat → Nat → Int64) × Nat × (Nat → Int32)) (T : sp_T) (C : Nat → List Int32) (K : sp_K) : Option Value → mm_Hp → Prop := fun v h' => v = none ∧ ∃ g', h' = (hp_SH ++ dy, g', r) ∧ (∀ k j, fv_ k j = false → ¬ (k = 25 ∧ j = 2) → g' k j = g k j) ∧ g' 25 2 = 1 ∧ g' 25 1 = nI (bw_ T C K) ∧ ∀ b, b < 6 → g' 26 b = pl_c (dec_ (T.1 + 1) (bc_ T C K) b)
theorem fd_out {g g1 g2 g3 g4 g5 : Nat → Nat → Int32} (h1 : ∀ a j, a ≠ 29 → g1 a j = g a j) (h2 : ∀ a j, a ≠ 30 → g2 a j = g1 a j) (h3 : ∀ a j, a ≠ 28 → g3 a j = g2 a j) (h4 : g4 = mm_up g3 25 1 (-1)) (hF : fr_ fv_ g4 g5) : fr_ fv_ g g5 := by
  intro k j h
  rw [hF k j h, h4]
  have h5 := Bool.or_eq_false_iff.mp h
  have h6 := Bool.or_eq_false_iff.mp h5.2
  have h28 : k ≠ 28 := by have := (Bool.or_eq_false_iff.mp (Bool.or_eq_false_iff.mp h6.1).1).2; simpa using this
  have h29 : k ≠ 29 := by have := (Bool.or_eq_false_iff.mp (Bool.or_eq_false_iff.mp h5.1).2).1; simpa using this
  have h30 : k ≠ 30 := by have := (Bool.or_eq_false_iff.mp (Bool.or_eq_false_iff.mp h5.1).2).2; simpa using this
  simp only [mm_up]
  rw [h6.2]
  show g3 k j = _
  rw [h3 k j h28, h2 k j h30, h1 k j h29]
theorem fd_u2 {g g5 : Nat → Nat → Int32} {v : Int32} {k j : Nat} (hF : fr_ fv_ g g5) (h : fv_ k j = false) (hn : ¬ (k = 25 ∧ j = 2)) : mm_up g5 25 2 v k j = g k j := by
  have : (k == 25 && j == 2) = false := by
    cases h1 : (k == 25 && j == 2) with
    | false => rfl
    | true => simp at h1; exact absurd h1 hn
  simp only [mm_up]
  rw [this]
  exact hF k j h
theorem ct_Se_find (dy : List mm_Sh) (g : Nat → Nat → Int32) (r : (Nat → Nat → Int64) × Nat × (Nat → Int32)) {T : sp_T} {C : Nat → List Int32} {K : sp_K} (hSB : SB_ dy (nr_ g) T C K) (hfo : g 25 2 = 0 ∨ (g 25 2 = 1 ∧ g 25 1 = nI (bw_ T C K) ∧ ∀ b, b < 6 → g 26 b = pl_c (dec_ (T.1 + 1) (bc_ T C K) b))) : mm_Ct 16 M_Se_find [.ref 25, .ref 1] (hp_SH ++ dy, g, r) 0 0 (fd_Q dy g r T C K) := by
  refine mm_start pl_Se (Nat.le_of_ble_eq_true rfl) ?_
  refine mm_B ok_Se_find 0 2 (4, [some (.ref 25), some (.ref 1)], [.int (g 25 2)], (hp_SH ++ dy, g, r)) [] rfl trivial ?_
  rcases hfo with h0 | ⟨h0, h1, h2⟩
  · rw [h0]
    refine mm_I ok_Se_find 2 0 4 [some (.ref 25), some (.ref 1)] [.int 0] (hp_SH ++ dy, g, r) [] rfl trivial rfl rfl (fun _ => ?_) (fun q => False.elim (q rfl))
    refine mm_B ok_Se_find 4 3 (13, [some (.ref 25), some (.ref 1)], [.int (-1), .ref 29], (hp_SH ++ dy, g, r)) [] rfl trivial ?_
    refine mm_cS (as := [.ref 29, .int (-1)]) (st := []) cw_Ar_fill lk_Se_31 sx_Ar_fill (mm_at ok_Se_find (i := 7) rfl).1 (ct_Ar_fill (hp_SH ++ dy) g r (k := 29) (n := 5040) ((hp_at dy (by decide)).trans rfl) (by decide) (-1)) (by decide) ⟨by omega, by omega⟩ (Nat.le_of_ble_eq_true rfl) (mm_vs_b (b := 77) rfl (hp_len dy)) (fun v h' hqq => ?_)
    obtain ⟨rfl, g1, hqe, hf1, hv1⟩ := hqq; rw [hqe]
    refine mm_B ok_Se_find 8 3 (21, [some (.ref 25), some (.ref 1)], [.int (-1), .ref 30], (hp_SH ++ dy, g1, r)) [] rfl trivial ?_
    refine mm_cS (as := [.ref 30, .int (-1)]) (st := []) cw_Ar_fill lk_Se_31 sx_Ar_fill (mm_at ok_Se_find (i := 11) rfl).1 (ct_Ar_fill (hp_SH ++ dy) g1 r (k := 30) (n := 840) ((hp_at dy (by decide)).trans rfl) (by decide) (-1)) (by decide) ⟨by omega, by omega⟩ (Nat.le_of_ble_eq_true rfl) (mm_vs_b (b := 77) rfl (hp_len dy)) (fun v h' hqq => ?_)
    obtain ⟨rfl, g2, hqe, hf2, hv2⟩ := hqq; rw [hqe]
    refine mm_B ok_Se_find 12 3 (29, [some (.ref 25), some (.ref 1)], [.int 0, .ref 28], (hp_SH ++ dy, g2, r)) [] rfl trivial ?_
    refine mm_cS (as := [.ref 28, .int 0]) (st := []) cw_Ar_fill lk_Se_31 sx_Ar_fill (mm_at ok_Se_find (i := 15) rfl).1 (ct_Ar_fill (hp_SH ++ dy) g2 r (k := 28) (n := 42) ((hp_at dy (by decide)).trans rfl) (by decide) 0) (by decide) ⟨by omega, by omega⟩ (Nat.le_of_ble_eq_true rfl) (mm_vs_b (b := 77) rfl (hp_len dy)) (fun v h' hqq => ?_)
    obtain ⟨rfl, g3, hqe, hf3, hv3⟩ := hqq; rw [hqe]
    refine mm_B ok_Se_find 16 6 (40, [some (.ref 25), some (.ref 1)], [.int 0, .ref 1, .ref 25], (hp_SH ++ dy, mm_up g3 25 1 (-1), r)) [] rfl trivial ?_
    obtain ⟨g4, hg4⟩ : ∃ y, y = mm_up g3 25 1 (-1) := ⟨_, rfl⟩
    rw [← hg4]
    have hF4 : fr_ fv_ g g4 := fd_out hf1 hf2 hf3 hg4 fr_.rf
    have hnc4 : nc_ C K.2.2.2 g4 := fun i hi => Or.inl (by rw [hg4]; show g3 29 i = -1; rw [hf3 29 i (by decide), hf2 29 i (by decide)]; exact hv1 i hi)
    have hng4 : ng_ T C K.2.2.2 g4 := fun i hi => Or.inl (by rw [hg4]; show g3 30 i = -1; rw [hf3 30 i (by decide)]; exact hv2 i hi)
    have h6 := (SB_self hSB).2.2.2.1
    have hmr4 : mr_ T C K g4 0 0 := fun c hc => by rw [hg4]; exact hv3 (6 * 0 + c) (by omega)
    refine mm_cV (as := [.ref 1, .int 0]) (st := []) (q := 25) cw_Se_visit lk_Se_41 in_Se_visit sl_Se_visit rfl rfl (mm_at ok_Se_find (i := 22) rfl).1 (ct_Se_visit dy (T := T) (C := C) (K := K) 6 0 rfl 0 (0, 0) g4 r (SB_fr hSB hF4) hmr4 (fun j hj => absurd hj (Nat.not_lt_zero j)) hnc4 hng4 ⟨by rw [hg4]; rfl, by decide, fun h => absurd rfl h⟩) (by decide) ⟨by omega, by omega⟩ (Nat.le_of_ble_eq_true rfl) (mm_vs_b (b := 77) rfl (hp_len dy)) (fun v h' hqq => ?_)
    obtain ⟨rfl, g5, hqe, hF5, -, -, -, -, hsr5⟩ := hqq; rw [hqe]
    rw [bf_best] at hsr5
    have hF05 := fd_out hf1 hf2 hf3 hg4 hF5
    refine mm_B ok_Se_find 23 3 (48, [some (.ref 25), some (.ref 1)], [], (hp_SH ++ dy, mm_up g5 25 2 1, r)) [(1 : Int32) = 0 ∨ (1 : Int32) = 1] rfl (show (1 : Int32) = 0 ∨ (1 : Int32) = 1 from (Or.inr rfl)) ?_
    exact mm_r0 rfl (mm_at ok_Se_find (i := 26) rfl).1 ⟨Nat.le_refl _, Nat.le_refl _⟩ (⟨rfl, _, rfl, fun k j h hn => fd_u2 hF05 h hn, rfl, hsr5.1.trans (nI_pred _), fun b hb => hsr5.2.2 (by show _ + 1 ≠ 0; omega) b hb⟩)
  · rw [h0]
    refine mm_I ok_Se_find 2 0 4 [some (.ref 25), some (.ref 1)] [.int 1] (hp_SH ++ dy, g, r) [] rfl trivial rfl rfl (fun q => False.elim (absurd q (by decide))) (fun _ => ?_)
    exact mm_r0 rfl (mm_at ok_Se_find (i := 3) rfl).1 ⟨Nat.le_refl _, Nat.le_refl _⟩ (⟨rfl, g, rfl, fun _ _ _ _ => rfl, h0, h1, h2⟩)

