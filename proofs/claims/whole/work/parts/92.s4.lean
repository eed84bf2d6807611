/-! ===== calls that change the state: lay ===== -/
noncomputable def nx_lay (A : sA) : sA := (A.1, A.2.1, (dec_ (A.1.1 + 1) (bc_ A.1 (aC A) A.2.1), A.2.2.1.2), A.2.2.2)
noncomputable def an_lay (A : sA) : Int32 × sA := (nI (bw_ A.1 (aC A) A.2.1), nx_lay A)
theorem SI_lay {A : sA} (h : SI A) : SI (nx_lay A) := ⟨fun b l hb hl => hl.elim (fun q => by have := dec_lt (show 0 < A.1.1 + 1 by omega) q; show l < A.1.1; omega) (fun q => h.1 b l hb (Or.inr q)), h.2⟩
theorem cc_lay (dy : List mm_Sh) (g : Nat → Nat → Int32) (r : (Nat → Nat → Int64) × Nat × (Nat → Int32)) {A : sA} (hI : CI dy (nr_ g) A) (hSI : SI A) : mm_Ct 20 M_Sc_lay [.ref 0] (hp_SH ++ dy, g, r) 0 0 (RC dy g r (an_lay A).2 (.int (an_lay A).1)) := by
  have hI' := hI
  obtain ⟨hL, hK, hPl, hX, hB, hS, hIm, hFd, hW⟩ := hI'
  have hR := cX_R hX
  have h4 := hL.2.1
  have h16 := p2_16 h4
  have h6 := hK.2.1
  have e20 : g 2 0 = nI A.1.1 := by rw [← nr_eq g (k := 2) (j := 0) rfl]; exact hL.1
  have e21 : g 2 1 = nI A.2.1.1 := by rw [← nr_eq g (k := 2) (j := 1) rfl]; exact hK.1
  have hpa : (hp_SH ++ dy)[9]? = some (.inl (0, 6)) := (hp_at dy (by decide)).trans rfl
  have hpl : ∀ b, b < 6 → g 9 b = pl_c (A.2.2.1.1 b) := fun b hb => by rw [← nr_eq g (k := 9) (j := b) rfl]; exact (hPl b hb).1
  have hot : ∀ b, b < 6 → g 10 b = pl_c (A.2.2.1.2 b) := fun b hb => by rw [← nr_eq g (k := 10) (j := b) rfl]; exact (hPl b hb).2
  have hpo : ∀ b l, b < 6 → A.2.2.1.1 b = some l → l < A.1.1 := fun b l hb h => hSI.1 b l hb (Or.inl h)
  refine mm_start pl_Sc (Nat.le_of_ble_eq_true rfl) ?_
  refine mm_B ok_Sc_lay 0 4 (8, [some (.ref 0)], [.ref 1, .ref 25], (hp_SH ++ dy, g, r)) [] rfl trivial ?_
  refine mm_cV (as := [.ref 1]) (st := []) (q := 25) cw_Se_find lk_Sc_196 in_Se_find sl_Se_find rfl rfl (mm_at ok_Sc_lay (i := 4) rfl).1 (ct_Se_find dy g r (CI_SB hI) (fd_hf hI)) (by decide) ⟨by omega, by omega⟩ (Nat.le_of_ble_eq_true rfl) (mm_vs_b (b := 77) rfl (hp_len dy)) (fun v h' hqq => ?_)
  obtain ⟨hqv, g1, hqe, hF1, f1, f2, f3⟩ := hqq; subst hqv; rw [hqe]
  have hI1 := CI_find hI hF1 f1 f2 f3
  refine mm_B ok_Sc_lay 5 10 (32, [some (.ref 0)], [.int 6, .int 0, .ref 9, .int 0, .ref 26], (hp_SH ++ dy, g1, r)) [] rfl trivial ?_
  refine mm_acopy (k0 := 26) (k1 := 9) (n0 := 6) (n1 := 6) lk_Sc_206 nt_copy sx_copy ii_System ((hp_at dy (by decide)).trans rfl) ((hp_at dy (by decide)).trans rfl) (by decide) (by decide) (by decide) (by decide) (by decide) (by decide) (Nat.le_of_ble_eq_true rfl) (mm_at ok_Sc_lay (i := 15) rfl).1 ?_
  have hne : ∀ a j, a ≠ 9 → mm_cp g1 26 9 (Int32.toNatClampNeg 0) (Int32.toNatClampNeg 0) (Int32.toNatClampNeg 6) a j = g1 a j := fun a j ha => by simp [mm_cp, beq_false_of_ne ha]
  have hc : cP (nr_ (mm_cp g1 26 9 (Int32.toNatClampNeg 0) (Int32.toNatClampNeg 0) (Int32.toNatClampNeg 6))) (dec_ (A.1.1 + 1) (bc_ A.1 (aC A) A.2.1), A.2.2.1.2) := fun b hb => by
    rw [nr_eq _ rfl, nr_eq _ rfl, cp6 hb, hne 10 b (by decide)]
    refine ⟨f3 b hb, ?_⟩
    have := (hI1.2.2.1 b hb).2
    rw [nr_eq g1 rfl] at this
    exact this
  refine mm_B ok_Sc_lay 16 3 (42, [some (.ref 0)], [.int ((mm_cp g1 26 9 (Int32.toNatClampNeg 0) (Int32.toNatClampNeg 0) (Int32.toNatClampNeg 6)) 25 1)], (hp_SH ++ dy, (mm_cp g1 26 9 (Int32.toNatClampNeg 0) (Int32.toNatClampNeg 0) (Int32.toNatClampNeg 6)), r)) [] rfl trivial ?_
  rw [hne 25 1 (by decide), f2]
  exact mm_ri rfl (mm_at ok_Sc_lay (i := 19) rfl).1 ⟨Nat.le_refl _, Nat.le_refl _⟩ (RC_g rfl (CI_plan hI1 hc (fun a j h => hne a j (by omega))) (fun a j h1 h2 => (hne a j (by omega)).trans (fd_hi hF1 a j h1 h2)))
theorem la_go (dy : List mm_Sh) (g : Nat → Nat → Int32) (r : (Nat → Nat → Int64) × Nat × (Nat → Int32)) {A : sA} (hI : MI (nr_ g) A) (g1 : Nat → Nat → Int32) (r1 : (Nat → Nat → Int64) × Nat × (Nat → Int32)) (hr : r1.2 = r.2) (hF : fr_ mz_ g g1) (h39 : g1 52 39 = nI (bw_ A.1 (aC A) A.2.1)) (h70 : ∀ b, b < 6 → g1 70 b = pl_c (dec_ (A.1.1 + 1) (bc_ A.1 (aC A) A.2.1) b)) : ∀ (m k : Nat) (g2 : Nat → Nat → Int32), k + m = 6 → (∀ a j, ¬ (a = 62 ∧ j < 6) → g2 a j = g1 a j) → (∀ b, b < k → g2 62 b = pl_c (dec_ (A.1.1 + 1) (bc_ A.1 (aC A) A.2.1) b)) → mm_W 75 M_Mo_lay 0 0 (RM dy g r (nx_lay A) (.int (nI (bw_ A.1 (aC A) A.2.1)))) 0 0 (6, [some (.ref 52), some (.int (nI k))], [], (hp_SH ++ dy, g2, r1)) := by
  intro m
  induction m with
  | zero =>
    intro k g2 hk h2 h62
    rw [show k = 6 by omega]
    have hc : dP (nr_ g2) (dec_ (A.1.1 + 1) (bc_ A.1 (aC A) A.2.1), A.2.2.1.2) := fun b hb => by
      rw [nr_eq _ rfl, nr_eq _ rfl]
      refine ⟨h62 b (by omega), ?_⟩
      rw [h2 62 (6 + b) (by omega), hF 62 (6 + b) rfl]
      have := (hI.2.2.1 b hb).2
      rw [nr_eq g rfl] at this
      exact this
    have hMI : MI (nr_ g1) A := by rw [show nr_ g1 = nr_ g from hF.nr mz_nr rfl]; exact hI
    refine mm_I ok_Mo_lay 4 2 9 [some (.ref 52), some (.int (nI 6))] [.int 6, .int (nI 6)] (hp_SH ++ dy, g2, r1) [] rfl trivial rfl rfl (fun _ => ?_) (fun q => False.elim (q (by decide)))
    refine mm_B ok_Mo_lay 17 2 (34, [some (.ref 52), some (.int (nI 6))], [.int (g2 52 39)], (hp_SH ++ dy, g2, r1)) [] rfl trivial ?_
    rw [h2 52 39 (by omega), h39]
    exact mm_ri rfl (mm_at ok_Mo_lay (i := 19) rfl).1 ⟨Nat.le_refl _, Nat.le_refl _⟩ (RM_g hr (MI_plan hMI hc (fun a j h => h2 a j (by omega))) (fun a j h1 => (h2 a j (by omega)).trans (hF a j (mz_out h1))))
  | succ m ih =>
    intro k g2 hk h2 h62
    have e70 : g2 70 k = pl_c (dec_ (A.1.1 + 1) (bc_ A.1 (aC A) A.2.1) k) := by rw [h2 70 k (by omega)]; exact h70 k (by omega)
    refine mm_I ok_Mo_lay 4 2 9 [some (.ref 52), some (.int (nI k))] [.int 6, .int (nI k)] (hp_SH ++ dy, g2, r1) [] rfl trivial rfl rfl (fun q => False.elim (nI_ge (b := 6) (show k < 6 by omega) (by decide) q)) (fun _ => ?_)
    refine mm_B ok_Mo_lay 7 10 (6, [some (.ref 52), some (.int ((nI k) + 1))], [], (hp_SH ++ dy, mm_up g2 62 ((nI k).toNatClampNeg) (g2 70 ((nI k).toNatClampNeg)), r1)) [vp_in (nI k) 6, vp_in (nI k) 12] rfl (show (vp_in (nI k) 6) ∧ (vp_in (nI k) 12) from ⟨(nI_vi (by omega) (by decide)), (nI_vi (by omega) (by decide))⟩) ?_
    rw [nI_1, nI_clamp (show k < 2 ^ 31 by omega), e70]
    exact ih (k + 1) _ (by omega) (fun a j h => by rw [up_off (by omega)]; exact h2 a j h) (fun b hb => by
      by_cases e : b = k
      · rw [e, mm_up_at]
      · rw [up_off (by omega)]; exact h62 b (by omega))
theorem cm_lay (dy : List mm_Sh) (g : Nat → Nat → Int32) (r : (Nat → Nat → Int64) × Nat × (Nat → Int32)) {A : sA} (hI : MI (nr_ g) A) (hSI : SI A) : mm_Ct 75 M_Mo_lay [.ref 52] (hp_SH ++ dy, g, r) 0 0 (RM dy g r (an_lay A).2 (.int (an_lay A).1)) := by
  have hI' := hI
  obtain ⟨hL, hK, hPl, hX, hB, hS, hIm⟩ := hI'
  have hR := dX_R hX
  have h4 := hL.2.1
  have h16 := p2_16 h4
  have h6 := hK.2.1
  have e10 : g 52 10 = nI A.1.1 := by rw [← nr_eq g (k := 52) (j := 10) rfl]; exact hL.1
  have e14 : g 52 14 = nI A.2.1.1 := by rw [← nr_eq g (k := 52) (j := 14) rfl]; exact hK.1
  have hpl : ∀ b, b < 6 → g 62 b = pl_c (A.2.2.1.1 b) := fun b hb => by rw [← nr_eq g (k := 62) (j := b) rfl]; exact (hPl b hb).1
  have hot : ∀ b, b < 6 → g 62 (6 + b) = pl_c (A.2.2.1.2 b) := fun b hb => by rw [← nr_eq g (k := 62) (j := 6 + b) rfl]; exact (hPl b hb).2
  have hpo : ∀ b l, b < 6 → A.2.2.1.1 b = some l → l < A.1.1 := fun b l hb h => hSI.1 b l hb (Or.inl h)
  refine mm_start pl_Mo (Nat.le_of_ble_eq_true rfl) ?_
  refine mm_B ok_Mo_lay 0 1 (1, [some (.ref 52), none], [.ref 52], (hp_SH ++ dy, g, r)) [] rfl trivial ?_
  refine mm_cV (as := []) (st := []) (q := 52) cw_Mo_seeks lk_Mo_315 in_Mo_seeks sl_Mo_seeks rfl rfl (mm_at ok_Mo_lay (i := 1) rfl).1 (ct_Mo_seeks dy g (nr_ g) r rfl hR hL hK) (by decide) ⟨by omega, by omega⟩ (Nat.le_of_ble_eq_true rfl) (mm_vs_b (b := 77) rfl (hp_len dy)) (fun v h' hqq => ?_)
  obtain ⟨rfl, g1, r1, hqe, hr1, hF1, h39, h70⟩ := hqq; rw [hqe]
  refine mm_B ok_Mo_lay 2 2 (6, [some (.ref 52), some (.int 0)], [], (hp_SH ++ dy, g1, r1)) [] rfl trivial ?_
  exact la_go dy g r hI g1 r1 hr1 hF1 h39 h70 6 0 g1 rfl (fun _ _ _ => rfl) (fun b hb => absurd hb (Nat.not_lt_zero b))

