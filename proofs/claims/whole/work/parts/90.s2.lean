/-! ===== calls that change the state: feed, force ===== -/
def nx_feed (A : sA) (v : Nat) : sA := (A.1, A.2.1, A.2.2.1, A.2.2.2.1, (A.2.2.2.2.1.1 + 1, fun j => if j = A.2.2.2.2.1.1 then nI v else A.2.2.2.2.1.2 j), A.2.2.2.2.2)
def an_feed (A : sA) (x : Int32) : Int32 × sA := match ix_ 256 x with
  | some v => if A.2.2.2.2.1.1 = 160 then (-4, A) else (nI (A.2.2.2.2.1.1 + 1), nx_feed A v)
  | none => (-2, A)
theorem SI_feed {A : sA} (h : SI A) (v : Nat) : SI (nx_feed A v) := h
theorem CI_feed {dy : List mm_Sh} {A : sA} {g g' : Nat → Nat → Int32} (hI : CI dy (nr_ g) A) {v : Nat} (h : A.2.2.2.2.1.1 < 160) (e0 : g' 31 1 = nI (A.2.2.2.2.1.1 + 1)) (e1 : g' 32 A.2.2.2.2.1.1 = nI v) (hF : ∀ a j, ¬ ((a = 31 ∧ j = 1) ∨ (a = 32 ∧ j = A.2.2.2.2.1.1)) → g' a j = g a j) : CI dy (nr_ g') (nx_feed A v) := by
  obtain ⟨hL, hK, hPl, hX, hB, hS, hIm, hFd, hW⟩ := hI
  have hP : ∀ a j, ¬ ((a = 31 ∧ j = 1) ∨ (a = 32 ∧ j = A.2.2.2.2.1.1)) → nr_ g' a j = nr_ g a j := fun a j h => nr_cong (hF a j h)
  refine ⟨rl_L_fr hL (fun a j h => hP a j (by omega)), rl_C_fr hK (fun a j h => hP a j (by omega)), cP_fr hPl (fun a j h => hP a j (by omega)), cX_fr hX (fun a j h => hP a j (by omega)), ⟨by rw [nr_eq g' rfl]; exact e0, by show A.2.2.2.2.1.1 + 1 ≤ 160; omega, fun j hj => ?_⟩, cS_fr hS (fun a j h => hP a j (by omega)), cI_fr hIm (fun a j h => hP a j (by omega)), cF_fr hFd (fun a j h => hP a j (by omega)), wf_P hW (fun a j h => hP a j (by omega))⟩
  show nr_ g' 32 j = if j = A.2.2.2.2.1.1 then nI v else A.2.2.2.2.1.2 j
  by_cases e : j = A.2.2.2.2.1.1
  · rw [if_pos e, e, nr_eq g' rfl]; exact e1
  · rw [if_neg e, hP 32 j (by omega)]
    exact hB.2.2 j (by have : j < A.2.2.2.2.1.1 + 1 := hj; omega)
theorem MI_feed {A : sA} {g g' : Nat → Nat → Int32} (hI : MI (nr_ g) A) {v : Nat} (hv : v < 256) (h : A.2.2.2.2.1.1 < 160) (e0 : g' 52 6 = nI (A.2.2.2.2.1.1 + 1)) (e1 : g' 55 A.2.2.2.2.1.1 = nI v) (hF : ∀ a j, ¬ ((a = 52 ∧ j = 6) ∨ (a = 55 ∧ j = A.2.2.2.2.1.1)) → g' a j = g a j) : MI (nr_ g') (nx_feed A v) := by
  obtain ⟨hL, hK, hPl, hX, hB, hS, hIm⟩ := hI
  have hP : ∀ a j, ¬ ((a = 52 ∧ j = 6) ∨ (a = 55 ∧ j = A.2.2.2.2.1.1)) → nr_ g' a j = nr_ g a j := fun a j h => nr_cong (hF a j h)
  refine ⟨rl_LM_fr hL (fun a j h => hP a j (by omega)), rl_CM_fr hK (fun a j h => hP a j (by omega)), dP_fr hPl (fun j => hP 62 j (by omega)), dX_fr hX (fun a j h => hP a j (by omega)), ⟨by rw [nr_eq g' rfl]; exact e0, by show A.2.2.2.2.1.1 + 1 ≤ 160; omega, fun j hj => ?_⟩, dS_fr hS (fun a j h => hP a j (by omega)), dI_fr hIm (fun a j h => hP a j (by omega))⟩
  show nr_ g' 55 j = (if j = A.2.2.2.2.1.1 then nI v else A.2.2.2.2.1.2 j) ∧ 0 ≤ (if j = A.2.2.2.2.1.1 then nI v else A.2.2.2.2.1.2 j)
  by_cases e : j = A.2.2.2.2.1.1
  · rw [if_pos e, e, nr_eq g' rfl]; exact ⟨e1, nI_pos' (by omega)⟩
  · rw [if_neg e, hP 55 j (by omega)]
    exact hB.2.2 j (by have : j < A.2.2.2.2.1.1 + 1 := hj; omega)
def nx_force (A : sA) (t : Nat) : sA := (A.1, A.2.1, A.2.2.1, (A.2.2.2.1.1, A.2.2.2.1.2.1, t), A.2.2.2.2)
def an_force (A : sA) (x : Int32) : Int32 × sA := match ix_ A.2.2.2.1.1 x with
  | some t => (nI A.2.2.2.1.2.2, nx_force A t)
  | none => (-2, A)
theorem SI_force {A : sA} (h : SI A) (t : Nat) : SI (nx_force A t) := h
theorem CI_force {dy : List mm_Sh} {A : sA} {g g' : Nat → Nat → Int32} (hI : CI dy (nr_ g) A) {t : Nat} (h : t < A.2.2.2.1.1) (e0 : g' 2 2 = nI t) (e25 : g' 25 2 = 0) (hF : ∀ a j, ¬ ((a = 2 ∧ j = 2) ∨ (a = 25 ∧ j = 2)) → g' a j = g a j) : CI dy (nr_ g') (nx_force A t) := by
  obtain ⟨hL, hK, hPl, ⟨x1, x2, x3, x4, x5⟩, hB, hS, hIm, hFd, hW⟩ := hI
  have hP : ∀ a j, ¬ ((a = 2 ∧ j = 2) ∨ (a = 25 ∧ j = 2)) → nr_ g' a j = nr_ g a j := fun a j h => nr_cong (hF a j h)
  refine ⟨rl_L_fr hL (fun a j h => hP a j (by omega)), rl_C_fr hK (fun a j h => hP a j (by omega)), cP_fr hPl (fun a j h => hP a j (by omega)), ⟨by rw [hP 1 2 (by omega)]; exact x1, x2, by rw [nr_eq g' rfl]; exact e0, h, fun t' ht' => ?_⟩, cB_fr hB (fun a j h => hP a j (by omega)), cS_fr hS (fun a j h => hP a j (by omega)), cI_fr hIm (fun a j h => hP a j (by omega)), Or.inl (by rw [nr_eq g' rfl]; exact e25), wf_P hW (fun a j h => hP a j (by omega))⟩
  obtain ⟨c, c1, c2, a0, a1, a2, c3, ca, d0, d1, d2⟩ := x5 t' ht'
  have hne : ∀ a, a = a0 ∨ a = a1 ∨ a = a2 → ∀ j, nr_ g' a j = nr_ g a j := fun a ha j => hP a j (by have := ca a ha; omega)
  exact ⟨c, by rw [hP 11 t' (by omega)]; exact c1, c2, a0, a1, a2, c3, ca, rt_A_fr d0 (hne a0 (Or.inl rfl)), rt_A_fr d1 (hne a1 (Or.inr (Or.inl rfl))), rt_A_fr d2 (hne a2 (Or.inr (Or.inr rfl)))⟩
theorem MI_force {A : sA} {g g' : Nat → Nat → Int32} (hI : MI (nr_ g) A) {t : Nat} (h : t < A.2.2.2.1.1) (e0 : g' 52 4 = nI t) (hF : ∀ a j, ¬ (a = 52 ∧ j = 4) → g' a j = g a j) : MI (nr_ g') (nx_force A t) := by
  obtain ⟨hL, hK, hPl, ⟨x1, x2, x3, x4, x5⟩, hB, hS, hIm⟩ := hI
  have hP : ∀ a j, ¬ (a = 52 ∧ j = 4) → nr_ g' a j = nr_ g a j := fun a j h => nr_cong (hF a j h)
  refine ⟨rl_LM_fr hL (fun a j h => hP a j (by omega)), rl_CM_fr hK (fun a j h => hP a j (by omega)), dP_fr hPl (fun j => hP 62 j (by omega)), ⟨by rw [hP 52 3 (by omega)]; exact x1, x2, by rw [nr_eq g' rfl]; exact e0, h, fun t' ht' => ?_⟩, dB_fr hB (fun a j h => hP a j (by omega)), dS_fr hS (fun a j h => hP a j (by omega)), dI_fr hIm (fun a j h => hP a j (by omega))⟩
  obtain ⟨n, F, B, c1, c2, c3, c4⟩ := x5 t' ht'
  exact ⟨n, F, B, by rw [hP 54 t' (by omega)]; exact c1, c2, fun i hi => by rw [hP 53 _ (by omega)]; exact c3 i hi, c4⟩
theorem cc_feed (dy : List mm_Sh) (g : Nat → Nat → Int32) (r : (Nat → Nat → Int64) × Nat × (Nat → Int32)) {A : sA} (hI : CI dy (nr_ g) A) (hSI : SI A) (x : Int32) : mm_Ct 12 M_Sc_feed [.ref 0, .int x] (hp_SH ++ dy, g, r) 0 0 (RC dy g r (an_feed A x).2 (.int (an_feed A x).1)) := by
  have hI' := hI
  obtain ⟨hL, hK, hPl, hX, hB, hS, hIm, hFd, hW⟩ := hI'
  have hR := cX_R hX
  have h4 := hL.2.1
  have h16 := p2_16 h4
  have h6 := hK.2.1
  have e20 : g 2 0 = nI A.1.1 := by rw [← nr_eq g (k := 2) (j := 0) rfl]; exact hL.1
  have e21 : g 2 1 = nI A.2.1.1 := by rw [← nr_eq g (k := 2) (j := 1) rfl]; exact hK.1
  have hpa : (hp_SH ++ dy)[9]? = some (.inl (0, 6)) := (hp_at dy (by decide)).trans rfl
  have hpl : ∀ b, b < 6 → g 9 b = pl_c (A.2.2.1.1 b) := fun b hb => by rw [← nr_eq g (k := 9) (j := b) rfl]; exact (hPl b hb).1
  have hot : ∀ b, b < 6 → g 10 b = pl_c (A.2.2.1.2 b) := fun b hb => by rw [← nr_eq g (k := 10) (j := b) rfl]; exact (hPl b hb).2
  have hpo : ∀ b l, b < 6 → A.2.2.1.1 b = some l → l < A.1.1 := fun b l hb h => hSI.1 b l hb (Or.inl h)
  refine mm_start pl_Sc (Nat.le_of_ble_eq_true rfl) ?_
  cases hx1 : ix_ 256 x with
  | none =>
    rw [show an_feed A x = (-2, A) by unfold an_feed; rw [hx1]]
    rcases g1_n (by decide) hx1 with hr | hr
    · refine mm_I ok_Sc_feed 0 1 1 [some (.ref 0), some (.int x)] [.int x] (hp_SH ++ dy, g, r) [] rfl trivial rfl rfl (fun _ => ?_) (fun q => False.elim (q hr))
      refine mm_B ok_Sc_feed 5 1 (13, [some (.ref 0), some (.int x)], [.int (-2)], (hp_SH ++ dy, g, r)) [] rfl trivial ?_
      exact mm_ri rfl (mm_at ok_Sc_feed (i := 6) rfl).1 ⟨Nat.le_refl _, Nat.le_refl _⟩ (RC_q rfl hI fr_.rf)
    · refine mm_I ok_Sc_feed 0 1 1 [some (.ref 0), some (.int x)] [.int x] (hp_SH ++ dy, g, r) [] rfl trivial rfl rfl (fun q => False.elim (absurd (Int32.lt_trans hr q) (by decide))) (fun _ => ?_)
      refine mm_I ok_Sc_feed 2 2 8 [some (.ref 0), some (.int x)] [.int 255, .int x] (hp_SH ++ dy, g, r) [] rfl trivial rfl rfl (fun q => False.elim (absurd hr (Int32.not_lt.mpr q))) (fun _ => ?_)
      refine mm_B ok_Sc_feed 5 1 (13, [some (.ref 0), some (.int x)], [.int (-2)], (hp_SH ++ dy, g, r)) [] rfl trivial ?_
      exact mm_ri rfl (mm_at ok_Sc_feed (i := 6) rfl).1 ⟨Nat.le_refl _, Nat.le_refl _⟩ (RC_q rfl hI fr_.rf)
  | some i =>
    obtain ⟨hl1, rfl⟩ := ix_some (by omega) hx1
    rw [show an_feed A (nI i) = if A.2.2.2.2.1.1 = 160 then (-4, A) else (nI (A.2.2.2.2.1.1 + 1), nx_feed A i) from by unfold an_feed; rw [hx1]]
    have e31 : g 31 1 = nI A.2.2.2.2.1.1 := by rw [← nr_eq g (k := 31) (j := 1) rfl]; exact hB.1
    have hb := hB.2.1
    refine mm_I ok_Sc_feed 0 1 1 [some (.ref 0), some (.int (nI i))] [.int (nI i)] (hp_SH ++ dy, g, r) [] rfl trivial rfl rfl (fun q => False.elim (nI_pos (n := i) (by omega) q)) (fun _ => ?_)
    refine mm_I ok_Sc_feed 2 2 8 [some (.ref 0), some (.int (nI i))] [.int 255, .int (nI i)] (hp_SH ++ dy, g, r) [] rfl trivial rfl rfl (fun _ => ?_) (fun q => False.elim (q (nI_le (b := 255) (by omega) (by decide))))
    refine mm_B ok_Sc_feed 7 4 (24, [some (.ref 0), some (.int (nI i))], [.int 160, .int (g 31 1)], (hp_SH ++ dy, g, r)) [] rfl trivial ?_
    rw [e31]
    by_cases hc : A.2.2.2.2.1.1 = 160
    · rw [if_pos hc]
      refine mm_I ok_Sc_feed 11 0 24 [some (.ref 0), some (.int (nI i))] [.int 160, .int (nI A.2.2.2.2.1.1)] (hp_SH ++ dy, g, r) [] rfl trivial rfl rfl (fun q => False.elim (absurd (hc ▸ q : nI 160 < 160) (by decide))) (fun _ => ?_)
      refine mm_B ok_Sc_feed 12 1 (29, [some (.ref 0), some (.int (nI i))], [.int (-4)], (hp_SH ++ dy, g, r)) [] rfl trivial ?_
      exact mm_ri rfl (mm_at ok_Sc_feed (i := 13) rfl).1 ⟨Nat.le_refl _, Nat.le_refl _⟩ (RC_q rfl hI fr_.rf)
    · rw [if_neg hc]
      refine mm_I ok_Sc_feed 11 0 24 [some (.ref 0), some (.int (nI i))] [.int 160, .int (nI A.2.2.2.2.1.1)] (hp_SH ++ dy, g, r) [] rfl trivial rfl rfl (fun _ => ?_) (fun q => False.elim (q (nI_lt (b := 160) (by omega) (by decide))))
      refine mm_B ok_Sc_feed 14 18 (66, [some (.ref 0), some (.int (nI i))], [.int ((g 31 1) + 1)], (hp_SH ++ dy, mm_up (mm_up g 32 ((g 31 1).toNatClampNeg) (nI i)) 31 1 ((g 31 1) + 1), r)) [vp_in (g 31 1) 160] rfl (show vp_in (g 31 1) 160 from ((by rw [e31]; exact nI_vi (show A.2.2.2.2.1.1 < 160 by omega) (by decide)))) ?_
      rw [e31, nI_1, nI_clamp (show A.2.2.2.2.1.1 < 2 ^ 31 by omega)]
      exact mm_ri rfl (mm_at ok_Sc_feed (i := 32) rfl).1 ⟨Nat.le_refl _, Nat.le_refl _⟩ (RC_g rfl (CI_feed hI (by omega) (mm_up_at _ 31 1 _) (mm_up_at _ 32 _ _) (fun a j h => by rw [up_off (by omega), up_off (by omega)])) (fun a j h1 h2 => by rw [up_off (by omega), up_off (by omega)]))
theorem cm_feed (dy : List mm_Sh) (g : Nat → Nat → Int32) (r : (Nat → Nat → Int64) × Nat × (Nat → Int32)) {A : sA} (hI : MI (nr_ g) A) (hSI : SI A) (x : Int32) : mm_Ct 12 M_Mo_feed [.ref 52, .int x] (hp_SH ++ dy, g, r) 0 0 (RM dy g r (an_feed A x).2 (.int (an_feed A x).1)) := by
  have hI' := hI
  obtain ⟨hL, hK, hPl, hX, hB, hS, hIm⟩ := hI'
  have hR := dX_R hX
  have h4 := hL.2.1
  have h16 := p2_16 h4
  have h6 := hK.2.1
  have e10 : g 52 10 = nI A.1.1 := by rw [← nr_eq g (k := 52) (j := 10) rfl]; exact hL.1
  have e14 : g 52 14 = nI A.2.1.1 := by rw [← nr_eq g (k := 52) (j := 14) rfl]; exact hK.1
  have hpl : ∀ b, b < 6 → g 62 b = pl_c (A.2.2.1.1 b) := fun b hb => by rw [← nr_eq g (k := 62) (j := b) rfl]; exact (hPl b hb).1
  have hot : ∀ b, b < 6 → g 62 (6 + b) = pl_c (A.2.2.1.2 b) := fun b hb => by rw [← nr_eq g (k := 62) (j := 6 + b) rfl]; exact (hPl b hb).2
  have hpo : ∀ b l, b < 6 → A.2.2.1.1 b = some l → l < A.1.1 := fun b l hb h => hSI.1 b l hb (Or.inl h)
  refine mm_start pl_Mo (Nat.le_of_ble_eq_true rfl) ?_
  cases hx1 : ix_ 256 x with
  | none =>
    rw [show an_feed A x = (-2, A) by unfold an_feed; rw [hx1]]
    refine mm_B ok_Mo_feed 0 4 (6, [some (.ref 52), some (.int x)], [.long 255, .long 0, .long (x).toInt64], (hp_SH ++ dy, g, r)) [] rfl trivial ?_
    refine mm_cS (as := [.long (x).toInt64, .long 0, .long 255]) (st := []) cw_Mo_in lk_Mo_100 sx_Mo_in (mm_at ok_Mo_feed (i := 4) rfl).1 (ct_Mo_in (hp_SH ++ dy, g, r) x.toInt64 0 255) (by decide) ⟨by omega, by omega⟩ (Nat.le_of_ble_eq_true rfl) (mm_vs_b (b := 77) rfl (hp_len dy)) (fun v h' hqq => ?_)
    obtain ⟨rfl, hqe⟩ := hqq; rw [hqe]
    rw [in_256 x, hx1]
    refine mm_I ok_Mo_feed 5 0 9 [some (.ref 52), some (.int x)] [.int (iz_ none)] (hp_SH ++ dy, g, r) [] rfl trivial rfl rfl (fun q => False.elim (q rfl)) (fun _ => ?_)
    refine mm_B ok_Mo_feed 6 1 (14, [some (.ref 52), some (.int x)], [.int (-2)], (hp_SH ++ dy, g, r)) [] rfl trivial ?_
    exact mm_ri rfl (mm_at ok_Mo_feed (i := 7) rfl).1 ⟨Nat.le_refl _, Nat.le_refl _⟩ (RM_q rfl hI fr_.rf)
  | some i =>
    obtain ⟨hl1, rfl⟩ := ix_some (by omega) hx1
    rw [show an_feed A (nI i) = if A.2.2.2.2.1.1 = 160 then (-4, A) else (nI (A.2.2.2.2.1.1 + 1), nx_feed A i) from by unfold an_feed; rw [hx1]]
    have e31 : g 52 6 = nI A.2.2.2.2.1.1 := by rw [← nr_eq g (k := 52) (j := 6) rfl]; exact hB.1
    have hb := hB.2.1
    refine mm_B ok_Mo_feed 0 4 (6, [some (.ref 52), some (.int (nI i))], [.long 255, .long 0, .long ((nI i)).toInt64], (hp_SH ++ dy, g, r)) [] rfl trivial ?_
    refine mm_cS (as := [.long ((nI i)).toInt64, .long 0, .long 255]) (st := []) cw_Mo_in lk_Mo_100 sx_Mo_in (mm_at ok_Mo_feed (i := 4) rfl).1 (ct_Mo_in (hp_SH ++ dy, g, r) (nI i).toInt64 0 255) (by decide) ⟨by omega, by omega⟩ (Nat.le_of_ble_eq_true rfl) (mm_vs_b (b := 77) rfl (hp_len dy)) (fun v h' hqq => ?_)
    obtain ⟨rfl, hqe⟩ := hqq; rw [hqe]
    rw [in_256 (nI i), ix_at hl1 (by omega)]
    refine mm_I ok_Mo_feed 5 0 9 [some (.ref 52), some (.int (nI i))] [.int (iz_ (some i))] (hp_SH ++ dy, g, r) [] rfl trivial rfl rfl (fun _ => ?_) (fun q => False.elim (one0 q))
    refine mm_B ok_Mo_feed 8 3 (22, [some (.ref 52), some (.int (nI i))], [.int 160, .int (g 52 6)], (hp_SH ++ dy, g, r)) [] rfl trivial ?_
    rw [e31]
    by_cases hc : A.2.2.2.2.1.1 = 160
    · rw [if_pos hc]
      refine mm_I ok_Mo_feed 11 0 22 [some (.ref 52), some (.int (nI i))] [.int 160, .int (nI A.2.2.2.2.1.1)] (hp_SH ++ dy, g, r) [] rfl trivial rfl rfl (fun q => False.elim (q (by rw [hc]; rfl))) (fun _ => ?_)
      refine mm_B ok_Mo_feed 12 1 (27, [some (.ref 52), some (.int (nI i))], [.int (-4)], (hp_SH ++ dy, g, r)) [] rfl trivial ?_
      exact mm_ri rfl (mm_at ok_Mo_feed (i := 13) rfl).1 ⟨Nat.le_refl _, Nat.le_refl _⟩ (RM_q rfl hI fr_.rf)
    · rw [if_neg hc]
      refine mm_I ok_Mo_feed 11 0 22 [some (.ref 52), some (.int (nI i))] [.int 160, .int (nI A.2.2.2.2.1.1)] (hp_SH ++ dy, g, r) [] rfl trivial rfl rfl (fun _ => ?_) (fun q => False.elim (hc ((nI_eq (b := 160) (by omega) (by decide)).mp q)))
      refine mm_B ok_Mo_feed 14 14 (52, [some (.ref 52), some (.int (nI i))], [.int ((g 52 6) + 1)], (hp_SH ++ dy, mm_up (mm_up g 55 ((g 52 6).toNatClampNeg) (nI i)) 52 6 ((g 52 6) + 1), r)) [vp_in (g 52 6) 160] rfl (show vp_in (g 52 6) 160 from ((by rw [e31]; exact nI_vi (show A.2.2.2.2.1.1 < 160 by omega) (by decide)))) ?_
      rw [e31, nI_1, nI_clamp (show A.2.2.2.2.1.1 < 2 ^ 31 by omega)]
      exact mm_ri rfl (mm_at ok_Mo_feed (i := 28) rfl).1 ⟨Nat.le_refl _, Nat.le_refl _⟩ (RM_g rfl (MI_feed hI hl1 (by omega) (mm_up_at _ 52 6 _) (mm_up_at _ 55 _ _) (fun a j h => by rw [up_off (by omega), up_off (by omega)])) (fun a j h1 => by rw [up_off (by omega), up_off (by omega)]))
theorem cc_force (dy : List mm_Sh) (g : Nat → Nat → Int32) (r : (Nat → Nat → Int64) × Nat × (Nat → Int32)) {A : sA} (hI : CI dy (nr_ g) A) (hSI : SI A) (x : Int32) : mm_Ct 12 M_Sc_force [.ref 0, .int x] (hp_SH ++ dy, g, r) 0 0 (RC dy g r (an_force A x).2 (.int (an_force A x).1)) := by
  have hI' := hI
  obtain ⟨hL, hK, hPl, hX, hB, hS, hIm, hFd, hW⟩ := hI'
  have hR := cX_R hX
  have h4 := hL.2.1
  have h16 := p2_16 h4
  have h6 := hK.2.1
  have e20 : g 2 0 = nI A.1.1 := by rw [← nr_eq g (k := 2) (j := 0) rfl]; exact hL.1
  have e21 : g 2 1 = nI A.2.1.1 := by rw [← nr_eq g (k := 2) (j := 1) rfl]; exact hK.1
  have hpa : (hp_SH ++ dy)[9]? = some (.inl (0, 6)) := (hp_at dy (by decide)).trans rfl
  have hpl : ∀ b, b < 6 → g 9 b = pl_c (A.2.2.1.1 b) := fun b hb => by rw [← nr_eq g (k := 9) (j := b) rfl]; exact (hPl b hb).1
  have hot : ∀ b, b < 6 → g 10 b = pl_c (A.2.2.1.2 b) := fun b hb => by rw [← nr_eq g (k := 10) (j := b) rfl]; exact (hPl b hb).2
  have hpo : ∀ b l, b < 6 → A.2.2.1.1 b = some l → l < A.1.1 := fun b l hb h => hSI.1 b l hb (Or.inl h)
  refine mm_start pl_Sc (Nat.le_of_ble_eq_true rfl) ?_
  have e12 : g 1 2 = nI A.2.2.2.1.1 := by rw [← nr_eq g (k := 1) (j := 2) rfl]; exact hX.1
  have e22 : g 2 2 = nI A.2.2.2.1.2.2 := by rw [← nr_eq g (k := 2) (j := 2) rfl]; exact hX.2.2.1
  have htc := hX.2.1
  cases hx : ix_ A.2.2.2.1.1 x with
  | none =>
    rw [show an_force A x = (-2, A) by unfold an_force; rw [hx]]
    rcases ix_none hx with h | h
    · refine mm_I ok_Sc_force 0 1 1 [some (.ref 0), some (.int x), none] [.int x] (hp_SH ++ dy, g, r) [] rfl trivial rfl rfl (fun _ => ?_) (fun q => False.elim (q h))
      refine mm_B ok_Sc_force 7 1 (17, [some (.ref 0), some (.int x), none], [.int (-2)], (hp_SH ++ dy, g, r)) [] rfl trivial ?_
      exact mm_ri rfl (mm_at ok_Sc_force (i := 8) rfl).1 ⟨Nat.le_refl _, Nat.le_refl _⟩ (RC_q rfl hI fr_.rf)
    · refine mm_I ok_Sc_force 0 1 1 [some (.ref 0), some (.int x), none] [.int x] (hp_SH ++ dy, g, r) [] rfl trivial rfl rfl (fun q => False.elim (absurd q (Int32.not_lt.mpr (Int32.le_trans (nI_pos' (show A.2.2.2.1.1 < 2 ^ 31 by omega)) h)))) (fun _ => ?_)
      refine mm_B ok_Sc_force 2 4 (12, [some (.ref 0), some (.int x), none], [.int (g 1 2), .int x], (hp_SH ++ dy, g, r)) [] rfl trivial ?_
      rw [e12]
      refine mm_I ok_Sc_force 6 0 12 [some (.ref 0), some (.int x), none] [.int (nI A.2.2.2.1.1), .int x] (hp_SH ++ dy, g, r) [] rfl trivial rfl rfl (fun q => False.elim (absurd q (Int32.not_lt.mpr h))) (fun _ => ?_)
      refine mm_B ok_Sc_force 7 1 (17, [some (.ref 0), some (.int x), none], [.int (-2)], (hp_SH ++ dy, g, r)) [] rfl trivial ?_
      exact mm_ri rfl (mm_at ok_Sc_force (i := 8) rfl).1 ⟨Nat.le_refl _, Nat.le_refl _⟩ (RC_q rfl hI fr_.rf)
  | some t =>
    rw [show an_force A x = (nI A.2.2.2.1.2.2, nx_force A t) by unfold an_force; rw [hx]]
    obtain ⟨ht, rfl⟩ := ix_some (by omega) hx
    refine mm_I ok_Sc_force 0 1 1 [some (.ref 0), some (.int (nI t)), none] [.int (nI t)] (hp_SH ++ dy, g, r) [] rfl trivial rfl rfl (fun q => False.elim (nI_pos (n := t) (by omega) q)) (fun _ => ?_)
    refine mm_B ok_Sc_force 2 4 (12, [some (.ref 0), some (.int (nI t)), none], [.int (g 1 2), .int (nI t)], (hp_SH ++ dy, g, r)) [] rfl trivial ?_
    rw [e12]
    refine mm_I ok_Sc_force 6 0 12 [some (.ref 0), some (.int (nI t)), none] [.int (nI A.2.2.2.1.1), .int (nI t)] (hp_SH ++ dy, g, r) [] rfl trivial rfl rfl (fun _ => ?_) (fun q => False.elim (q (nI_lt ht (by omega))))
    refine mm_B ok_Sc_force 9 12 (44, [some (.ref 0), some (.int (nI t)), some (.int (g 2 2))], [.ref 25], (hp_SH ++ dy, mm_up g 2 2 (nI t), r)) [] rfl trivial ?_
    refine mm_cV (as := []) (st := []) (q := 25) cw_Se_forget lk_Sc_83 in_Se_forget sl_Se_forget rfl rfl (mm_at ok_Sc_force (i := 21) rfl).1 (ct_Se_forget dy (mm_up g 2 2 (nI t)) r) (by decide) ⟨by omega, by omega⟩ (Nat.le_of_ble_eq_true rfl) (mm_vs_b (b := 77) rfl (hp_len dy)) (fun v h' hqq => ?_)
    obtain ⟨rfl, hqe⟩ := hqq; rw [hqe]
    refine mm_B ok_Sc_force 22 1 (48, [some (.ref 0), some (.int (nI t)), some (.int (g 2 2))], [.int (g 2 2)], (hp_SH ++ dy, mm_up (mm_up g 2 2 (nI t)) 25 2 0, r)) [] rfl trivial ?_
    rw [e22]
    exact mm_ri rfl (mm_at ok_Sc_force (i := 23) rfl).1 ⟨Nat.le_refl _, Nat.le_refl _⟩ (RC_g rfl (CI_force hI ht (by rw [up_off (by omega), mm_up_at]) (mm_up_at _ 25 2 _) (fun a j h => by rw [up_off (by omega), up_off (by omega)])) (fun a j h1 h2 => by rw [up_off (by omega), up_off (by omega)]))
theorem cm_force (dy : List mm_Sh) (g : Nat → Nat → Int32) (r : (Nat → Nat → Int64) × Nat × (Nat → Int32)) {A : sA} (hI : MI (nr_ g) A) (hSI : SI A) (x : Int32) : mm_Ct 12 M_Mo_force [.ref 52, .int x] (hp_SH ++ dy, g, r) 0 0 (RM dy g r (an_force A x).2 (.int (an_force A x).1)) := by
  have hI' := hI
  obtain ⟨hL, hK, hPl, hX, hB, hS, hIm⟩ := hI'
  have hR := dX_R hX
  have h4 := hL.2.1
  have h16 := p2_16 h4
  have h6 := hK.2.1
  have e10 : g 52 10 = nI A.1.1 := by rw [← nr_eq g (k := 52) (j := 10) rfl]; exact hL.1
  have e14 : g 52 14 = nI A.2.1.1 := by rw [← nr_eq g (k := 52) (j := 14) rfl]; exact hK.1
  have hpl : ∀ b, b < 6 → g 62 b = pl_c (A.2.2.1.1 b) := fun b hb => by rw [← nr_eq g (k := 62) (j := b) rfl]; exact (hPl b hb).1
  have hot : ∀ b, b < 6 → g 62 (6 + b) = pl_c (A.2.2.1.2 b) := fun b hb => by rw [← nr_eq g (k := 62) (j := 6 + b) rfl]; exact (hPl b hb).2
  have hpo : ∀ b l, b < 6 → A.2.2.1.1 b = some l → l < A.1.1 := fun b l hb h => hSI.1 b l hb (Or.inl h)
  refine mm_start pl_Mo (Nat.le_of_ble_eq_true rfl) ?_
  have e12 : g 52 3 = nI A.2.2.2.1.1 := by rw [← nr_eq g (k := 52) (j := 3) rfl]; exact hX.1
  have e22 : g 52 4 = nI A.2.2.2.1.2.2 := by rw [← nr_eq g (k := 52) (j := 4) rfl]; exact hX.2.2.1
  have htc := hX.2.1
  refine mm_B ok_Mo_force 0 8 (10, [some (.ref 52), some (.int x), none], [.long (((g 52 3) - 1)).toInt64, .long 0, .long (x).toInt64], (hp_SH ++ dy, g, r)) [] rfl trivial ?_
  rw [e12]
  refine mm_cS (as := [.long (x).toInt64, .long 0, .long (((nI A.2.2.2.1.1) - 1)).toInt64]) (st := []) cw_Mo_in lk_Mo_100 sx_Mo_in (mm_at ok_Mo_force (i := 8) rfl).1 (ct_Mo_in (hp_SH ++ dy, g, r) x.toInt64 0 (nI A.2.2.2.1.1 - 1).toInt64) (by decide) ⟨by omega, by omega⟩ (Nat.le_of_ble_eq_true rfl) (mm_vs_b (b := 77) rfl (hp_len dy)) (fun v h' hqq => ?_)
  obtain ⟨rfl, hqe⟩ := hqq; rw [hqe]
  rw [i0_, in_ix (show A.2.2.2.1.1 < 2 ^ 31 by omega)]
  cases hx : ix_ A.2.2.2.1.1 x with
  | none =>
    rw [show an_force A x = (-2, A) by unfold an_force; rw [hx]]
    refine mm_I ok_Mo_force 9 0 13 [some (.ref 52), some (.int x), none] [.int (iz_ none)] (hp_SH ++ dy, g, r) [] rfl trivial rfl rfl (fun q => False.elim (q rfl)) (fun _ => ?_)
    refine mm_B ok_Mo_force 10 1 (18, [some (.ref 52), some (.int x), none], [.int (-2)], (hp_SH ++ dy, g, r)) [] rfl trivial ?_
    exact mm_ri rfl (mm_at ok_Mo_force (i := 11) rfl).1 ⟨Nat.le_refl _, Nat.le_refl _⟩ (RM_q rfl hI fr_.rf)
  | some t =>
    rw [show an_force A x = (nI A.2.2.2.1.2.2, nx_force A t) by unfold an_force; rw [hx]]
    obtain ⟨ht, rfl⟩ := ix_some (by omega) hx
    refine mm_I ok_Mo_force 9 0 13 [some (.ref 52), some (.int (nI t)), none] [.int (iz_ (some t))] (hp_SH ++ dy, g, r) [] rfl trivial rfl rfl (fun _ => ?_) (fun q => False.elim (one0 q))
    refine mm_B ok_Mo_force 12 7 (30, [some (.ref 52), some (.int (nI t)), some (.int (g 52 4))], [.int (g 52 4)], (hp_SH ++ dy, mm_up g 52 4 (nI t), r)) [] rfl trivial ?_
    rw [e22]
    exact mm_ri rfl (mm_at ok_Mo_force (i := 19) rfl).1 ⟨Nat.le_refl _, Nat.le_refl _⟩ (RM_g rfl (MI_force hI ht (mm_up_at _ 52 4 _) (fun a j h => by rw [up_off (by omega)])) (fun a j h1 => by rw [up_off (by omega)]))

