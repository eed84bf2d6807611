/-! ===== calls that change the state: give, lay ===== -/
def pu_ (f : Nat → Option Nat) (b : Nat) (v : Option Nat) : Nat → Option Nat := fun j => if j = b then v else f j
def gl_ (A : sA) (l : Int32) : Option (Option Nat) := if l = -1 then some none else match ix_ A.1.1 l with
  | some l => some (some l)
  | none => none
theorem gl_some {A : sA} (h4 : A.1.1 ≤ 4) {l : Int32} {v : Option Nat} (h : gl_ A l = some v) : l = pl_c v ∧ ∀ k, v = some k → k < A.1.1 := by
  unfold gl_ at h
  split at h
  · cases h
    exact ⟨‹_›, fun k e => by cases e⟩
  · cases hx : ix_ A.1.1 l with
    | none => rw [hx] at h; cases h
    | some k =>
      rw [hx] at h
      cases h
      obtain ⟨h1, rfl⟩ := ix_some (by omega) hx
      exact ⟨rfl, fun k' e => by cases e; exact h1⟩
def nx_give (A : sA) (r b : Nat) (v : Option Nat) : sA := (A.1, A.2.1, (if r = 0 then (pu_ A.2.2.1.1 b v, A.2.2.1.2) else (A.2.2.1.1, pu_ A.2.2.1.2 b v)), A.2.2.2)
def an_give (A : sA) (r b l : Int32) : Int32 × sA := match ix_ 2 r, ix_ 6 b with
  | some r, some b => (match gl_ A l with
    | some v => (pl_c (if r = 0 then A.2.2.1.1 b else A.2.2.1.2 b), nx_give A r b v)
    | none => (-2, A))
  | _, _ => (-2, A)
theorem pu_pr {f : Nat → Option Nat} {b j l N : Nat} {v : Option Nat} (hv : ∀ k, v = some k → k < N) (h : pu_ f b v j = some l) (hf : f j = some l → l < N) : l < N := by
  unfold pu_ at h
  split at h
  · exact hv l h
  · exact hf h
theorem SI_give {A : sA} (h : SI A) {r b : Nat} {v : Option Nat} (hv : ∀ k, v = some k → k < A.1.1) : SI (nx_give A r b v) := by
  refine ⟨?_, h.2⟩
  show pr_ A.1 (if r = 0 then (pu_ A.2.2.1.1 b v, A.2.2.1.2) else (A.2.2.1.1, pu_ A.2.2.1.2 b v))
  split
  · intro j l hj hl
    rcases hl with hl | hl
    · exact pu_pr hv hl (fun q => h.1 j l hj (Or.inl q))
    · exact h.1 j l hj (Or.inr hl)
  · intro j l hj hl
    rcases hl with hl | hl
    · exact h.1 j l hj (Or.inl hl)
    · exact pu_pr hv hl (fun q => h.1 j l hj (Or.inr q))
theorem CI_plan {dy : List mm_Sh} {A : sA} {p : sP} {g g' : Nat → Nat → Int32} (hI : CI dy (nr_ g) A) (hc : cP (nr_ g') p) (hF : ∀ a j, ¬ (a = 9 ∨ a = 10) → g' a j = g a j) : CI dy (nr_ g') (A.1, A.2.1, p, A.2.2.2) := by
  obtain ⟨hL, hK, hPl, hX, hB, hS, hIm, hFd, hW⟩ := hI
  have hP : ∀ a j, ¬ (a = 9 ∨ a = 10) → nr_ g' a j = nr_ g a j := fun a j h => nr_cong (hF a j h)
  exact ⟨rl_L_fr hL (fun a j h => hP a j (by omega)), rl_C_fr hK (fun a j h => hP a j (by omega)), hc, cX_fr hX (fun a j h => hP a j (by omega)), cB_fr hB (fun a j h => hP a j (by omega)), cS_fr hS (fun a j h => hP a j (by omega)), cI_fr hIm (fun a j h => hP a j (by omega)), cF_fr hFd (fun a j h => hP a j (by omega)), wf_P hW (fun a j h => hP a j (by omega))⟩
theorem MI_plan {A : sA} {p : sP} {g g' : Nat → Nat → Int32} (hI : MI (nr_ g) A) (hc : dP (nr_ g') p) (hF : ∀ a j, ¬ a = 62 → g' a j = g a j) : MI (nr_ g') (A.1, A.2.1, p, A.2.2.2) := by
  obtain ⟨hL, hK, hPl, hX, hB, hS, hIm⟩ := hI
  have hP : ∀ a j, ¬ a = 62 → nr_ g' a j = nr_ g a j := fun a j h => nr_cong (hF a j h)
  exact ⟨rl_LM_fr hL (fun a j h => hP a j (by omega)), rl_CM_fr hK (fun a j h => hP a j (by omega)), hc, dX_fr hX (fun a j h => hP a j (by omega)), dB_fr hB (fun a j h => hP a j (by omega)), dS_fr hS (fun a j h => hP a j (by omega)), dI_fr hIm (fun a j h => hP a j (by omega))⟩
theorem cP_pu {g : Nat → Nat → Int32} {p : sP} (h : cP (nr_ g) p) {r b : Nat} (hr : r < 2) {v : Option Nat} : cP (nr_ (mm_up g (9 + r) b (pl_c v))) (if r = 0 then (pu_ p.1 b v, p.2) else (p.1, pu_ p.2 b v)) := by
  intro j hj
  obtain ⟨h1, h2⟩ := h j hj
  rw [nr_eq g rfl] at h1 h2
  rw [nr_eq _ rfl, nr_eq _ rfl]
  rcases (show r = 0 ∨ r = 1 by omega) with rfl | rfl
  · rw [if_pos rfl]
    refine ⟨?_, by rw [up_off (by omega)]; exact h2⟩
    show _ = pl_c (if j = b then v else p.1 j)
    by_cases e : j = b
    · rw [if_pos e, e, mm_up_at]
    · rw [if_neg e, up_off (by omega)]; exact h1
  · rw [if_neg (by decide)]
    refine ⟨by rw [up_off (by omega)]; exact h1, ?_⟩
    show _ = pl_c (if j = b then v else p.2 j)
    by_cases e : j = b
    · rw [if_pos e, e, mm_up_at]
    · rw [if_neg e, up_off (by omega)]; exact h2
theorem dP_pu {g : Nat → Nat → Int32} {p : sP} (h : dP (nr_ g) p) {r b : Nat} (hr : r < 2) (hb : b < 6) {v : Option Nat} : dP (nr_ (mm_up g 62 (6 * r + b) (pl_c v))) (if r = 0 then (pu_ p.1 b v, p.2) else (p.1, pu_ p.2 b v)) := by
  intro j hj
  obtain ⟨h1, h2⟩ := h j hj
  rw [nr_eq g rfl] at h1 h2
  rw [nr_eq _ rfl, nr_eq _ rfl]
  rcases (show r = 0 ∨ r = 1 by omega) with rfl | rfl
  · rw [if_pos rfl]
    refine ⟨?_, by rw [up_off (by omega)]; exact h2⟩
    show _ = pl_c (if j = b then v else p.1 j)
    by_cases e : j = b
    · rw [if_pos e, e, show 6 * 0 + b = b by omega, mm_up_at]
    · rw [if_neg e, up_off (by omega)]; exact h1
  · rw [if_neg (by decide)]
    refine ⟨by rw [up_off (by omega)]; exact h1, ?_⟩
    show _ = pl_c (if j = b then v else p.2 j)
    by_cases e : j = b
    · rw [if_pos e, e, show 6 * 1 + b = 6 + b by omega, mm_up_at]
    · rw [if_neg e, up_off (by omega)]; exact h2
theorem cc_give (dy : List mm_Sh) (g : Nat → Nat → Int32) (r : (Nat → Nat → Int64) × Nat × (Nat → Int32)) {A : sA} (hI : CI dy (nr_ g) A) (hSI : SI A) (x b l : Int32) : mm_Ct 12 M_Sc_give [.ref 0, .int x, .int b, .int l] (hp_SH ++ dy, g, r) 0 0 (RC dy g r (an_give A x b l).2 (.int (an_give A x b l).1)) := by
  have hI' := hI
  obtain ⟨hL, hK, hPl, hX, hB, hS, hIm, hFd, hW⟩ := hI'
  have hR := cX_R hX
  have h4 := hL.2.1
  have h16 := p2_16 h4
  have h6 := hK.2.1
  have e20 : g 2 0 = nI A.1.1 := by rw [← nr_eq g (k := 2) (j := 0) rfl]; exact hL.1
  have e21 : g 2 1 = nI A.2.1.1 := by rw [← nr_eq g (k := 2) (j := 1) rfl]; exact hK.1
  have hpa : (hp_SH ++ dy)[9]? = some (.inl (0, 6)) := (hp_at dy (by decide)).trans rfl
  have hpl : ∀ b, b < 6 → g 9 b = pl_c (A.2.2.1.1 b) := fun b hb => by rw [← nr_eq g (k := 9) (j := b) rfl]; exact (hPl b hb).1
  have hot : ∀ b, b < 6 → g 10 b = pl_c (A.2.2.1.2 b) := fun b hb => by rw [← nr_eq g (k := 10) (j := b) rfl]; exact (hPl b hb).2
  have hpo : ∀ b l, b < 6 → A.2.2.1.1 b = some l → l < A.1.1 := fun b l hb h => hSI.1 b l hb (Or.inl h)
  refine mm_start pl_Sc (Nat.le_of_ble_eq_true rfl) ?_
  cases hx1 : ix_ 2 x with
  | none =>
    rw [show an_give A x b l = (-2, A) by unfold an_give; rw [hx1]]
    refine mm_B ok_Sc_give 0 1 (1, [some (.ref 0), some (.int x), some (.int b), some (.int l), none, none], [.int x], (hp_SH ++ dy, g, r)) [] rfl trivial ?_
    refine mm_cS (as := [.int x]) (st := []) cw_Sc_isRaft lk_Sc_139 sx_Sc_isRaft (mm_at ok_Sc_give (i := 1) rfl).1 (ct_Sc_isRaft (hp_SH ++ dy, g, r) x) (by decide) ⟨by omega, by omega⟩ (Nat.le_of_ble_eq_true rfl) (mm_vs_b (b := 77) rfl (hp_len dy)) (fun v h' hqq => ?_)
    obtain ⟨rfl, hqe⟩ := hqq; rw [hqe]
    rw [rx_ x, hx1]
    refine mm_I ok_Sc_give 2 0 4 [some (.ref 0), some (.int x), some (.int b), some (.int l), none, none] [.int (iz_ none)] (hp_SH ++ dy, g, r) [] rfl trivial rfl rfl (fun _ => ?_) (fun q => False.elim (q rfl))
    refine mm_B ok_Sc_give 13 1 (29, [some (.ref 0), some (.int x), some (.int b), some (.int l), none, none], [.int (-2)], (hp_SH ++ dy, g, r)) [] rfl trivial ?_
    exact mm_ri rfl (mm_at ok_Sc_give (i := 14) rfl).1 ⟨Nat.le_refl _, Nat.le_refl _⟩ (RC_q rfl hI fr_.rf)
  | some i =>
    obtain ⟨hl1, rfl⟩ := ix_some (by omega) hx1
    cases hx2 : ix_ 6 b with
    | none =>
      rw [show an_give A (nI i) b l = (-2, A) by unfold an_give; rw [hx1, hx2]]
      refine mm_B ok_Sc_give 0 1 (1, [some (.ref 0), some (.int (nI i)), some (.int b), some (.int l), none, none], [.int (nI i)], (hp_SH ++ dy, g, r)) [] rfl trivial ?_
      refine mm_cS (as := [.int (nI i)]) (st := []) cw_Sc_isRaft lk_Sc_139 sx_Sc_isRaft (mm_at ok_Sc_give (i := 1) rfl).1 (ct_Sc_isRaft (hp_SH ++ dy, g, r) (nI i)) (by decide) ⟨by omega, by omega⟩ (Nat.le_of_ble_eq_true rfl) (mm_vs_b (b := 77) rfl (hp_len dy)) (fun v h' hqq => ?_)
      obtain ⟨rfl, hqe⟩ := hqq; rw [hqe]
      rw [rx_ (nI i), ix_at hl1 (by omega)]
      refine mm_I ok_Sc_give 2 0 4 [some (.ref 0), some (.int (nI i)), some (.int b), some (.int l), none, none] [.int (iz_ (some i))] (hp_SH ++ dy, g, r) [] rfl trivial rfl rfl (fun q => False.elim (one0 q)) (fun _ => ?_)
      refine mm_B ok_Sc_give 3 1 (8, [some (.ref 0), some (.int (nI i)), some (.int b), some (.int l), none, none], [.int b], (hp_SH ++ dy, g, r)) [] rfl trivial ?_
      refine mm_cS (as := [.int b]) (st := []) cw_Sc_isBend lk_Sc_142 sx_Sc_isBend (mm_at ok_Sc_give (i := 4) rfl).1 (ct_Sc_isBend (hp_SH ++ dy, g, r) b) (by decide) ⟨by omega, by omega⟩ (Nat.le_of_ble_eq_true rfl) (mm_vs_b (b := 77) rfl (hp_len dy)) (fun v h' hqq => ?_)
      obtain ⟨rfl, hqe⟩ := hqq; rw [hqe]
      rw [bx_ b, hx2]
      refine mm_I ok_Sc_give 5 0 11 [some (.ref 0), some (.int (nI i)), some (.int b), some (.int l), none, none] [.int (iz_ none)] (hp_SH ++ dy, g, r) [] rfl trivial rfl rfl (fun _ => ?_) (fun q => False.elim (q rfl))
      refine mm_B ok_Sc_give 13 1 (29, [some (.ref 0), some (.int (nI i)), some (.int b), some (.int l), none, none], [.int (-2)], (hp_SH ++ dy, g, r)) [] rfl trivial ?_
      exact mm_ri rfl (mm_at ok_Sc_give (i := 14) rfl).1 ⟨Nat.le_refl _, Nat.le_refl _⟩ (RC_q rfl hI fr_.rf)
    | some j =>
      obtain ⟨hl2, rfl⟩ := ix_some (by omega) hx2
      rw [show an_give A (nI i) (nI j) l = (match gl_ A l with | some v => (pl_c (if i = 0 then A.2.2.1.1 j else A.2.2.1.2 j), nx_give A i j v) | none => (-2, A)) from by unfold an_give; rw [hx1, hx2]]
      have hgo : ∀ v : Option Nat, l = pl_c v → mm_W 12 M_Sc_give 0 0 (RC dy g r (nx_give A i j v) (.int (pl_c (if i = 0 then A.2.2.1.1 j else A.2.2.1.2 j)))) 0 0 (30, [some (.ref 0), some (.int (nI i)), some (.int (nI j)), some (.int l), none, none], [], (hp_SH ++ dy, g, r)) := fun v hv => by
        subst hv
        have hpu := cP_pu hPl hl1 (b := j) (v := v)
        refine mm_B ok_Sc_give 15 2 (32, [some (.ref 0), some (.int (nI i)), some (.int (nI j)), some (.int (pl_c v)), none, none], [.int (nI i), .ref 0], (hp_SH ++ dy, g, r)) [] rfl trivial ?_
        refine mm_cV (as := [.int (nI i)]) (st := []) (q := 0) cw_Sc_planOf lk_Sc_145 in_Sc_planOf sl_Sc_planOf rfl rfl (mm_at ok_Sc_give (i := 17) rfl).1 (ct_Sc_planOf dy g r (nI i)) (by decide) ⟨by omega, by omega⟩ (Nat.le_of_ble_eq_true rfl) (mm_vs_b (b := 77) rfl (hp_len dy)) (fun v h' hqq => ?_)
        obtain ⟨rfl, hqe⟩ := hqq; rw [hqe]
        by_cases hi0 : i = 0
        · subst hi0
          rw [if_pos (show nI 0 = 0 from rfl), if_pos rfl]
          refine mm_B ok_Sc_give 18 10 (50, [some (.ref 0), some (.int (nI 0)), some (.int (nI j)), some (.int (pl_c v)), some (.ref 9), some (.int (g 9 ((nI j).toNatClampNeg)))], [.int (g 9 ((nI j).toNatClampNeg))], (hp_SH ++ dy, mm_up g 9 ((nI j).toNatClampNeg) (pl_c v), r)) [vp_in (nI j) 6, vp_in (nI j) 6] rfl (show (vp_in (nI j) 6) ∧ (vp_in (nI j) 6) from ⟨(nI_vi hl2 (by decide)), (nI_vi hl2 (by decide))⟩) ?_
          rw [nI_clamp (show j < 2 ^ 31 by omega), hpl j hl2]
          exact mm_ri rfl (mm_at ok_Sc_give (i := 28) rfl).1 ⟨Nat.le_refl _, Nat.le_refl _⟩ (RC_g rfl (CI_plan hI hpu (fun a j' h => by rw [up_off (by omega)])) (fun a j' h1 h2 => by rw [up_off (by omega)]))
        · have hi1 : i = 1 := by omega
          subst hi1
          rw [if_neg (show ¬ nI 1 = 0 by decide), if_neg (by decide)]
          refine mm_B ok_Sc_give 18 10 (50, [some (.ref 0), some (.int (nI 1)), some (.int (nI j)), some (.int (pl_c v)), some (.ref 10), some (.int (g 10 ((nI j).toNatClampNeg)))], [.int (g 10 ((nI j).toNatClampNeg))], (hp_SH ++ dy, mm_up g 10 ((nI j).toNatClampNeg) (pl_c v), r)) [vp_in (nI j) 6, vp_in (nI j) 6] rfl (show (vp_in (nI j) 6) ∧ (vp_in (nI j) 6) from ⟨(nI_vi hl2 (by decide)), (nI_vi hl2 (by decide))⟩) ?_
          rw [nI_clamp (show j < 2 ^ 31 by omega), hot j hl2]
          exact mm_ri rfl (mm_at ok_Sc_give (i := 28) rfl).1 ⟨Nat.le_refl _, Nat.le_refl _⟩ (RC_g rfl (CI_plan hI hpu (fun a j' h => by rw [up_off (by omega)])) (fun a j' h1 h2 => by rw [up_off (by omega)]))
      refine mm_B ok_Sc_give 0 1 (1, [some (.ref 0), some (.int (nI i)), some (.int (nI j)), some (.int l), none, none], [.int (nI i)], (hp_SH ++ dy, g, r)) [] rfl trivial ?_
      refine mm_cS (as := [.int (nI i)]) (st := []) cw_Sc_isRaft lk_Sc_139 sx_Sc_isRaft (mm_at ok_Sc_give (i := 1) rfl).1 (ct_Sc_isRaft (hp_SH ++ dy, g, r) (nI i)) (by decide) ⟨by omega, by omega⟩ (Nat.le_of_ble_eq_true rfl) (mm_vs_b (b := 77) rfl (hp_len dy)) (fun v h' hqq => ?_)
      obtain ⟨rfl, hqe⟩ := hqq; rw [hqe]
      rw [rx_ (nI i), ix_at hl1 (by omega)]
      refine mm_I ok_Sc_give 2 0 4 [some (.ref 0), some (.int (nI i)), some (.int (nI j)), some (.int l), none, none] [.int (iz_ (some i))] (hp_SH ++ dy, g, r) [] rfl trivial rfl rfl (fun q => False.elim (one0 q)) (fun _ => ?_)
      refine mm_B ok_Sc_give 3 1 (8, [some (.ref 0), some (.int (nI i)), some (.int (nI j)), some (.int l), none, none], [.int (nI j)], (hp_SH ++ dy, g, r)) [] rfl trivial ?_
      refine mm_cS (as := [.int (nI j)]) (st := []) cw_Sc_isBend lk_Sc_142 sx_Sc_isBend (mm_at ok_Sc_give (i := 4) rfl).1 (ct_Sc_isBend (hp_SH ++ dy, g, r) (nI j)) (by decide) ⟨by omega, by omega⟩ (Nat.le_of_ble_eq_true rfl) (mm_vs_b (b := 77) rfl (hp_len dy)) (fun v h' hqq => ?_)
      obtain ⟨rfl, hqe⟩ := hqq; rw [hqe]
      rw [bx_ (nI j), ix_at hl2 (by omega)]
      refine mm_I ok_Sc_give 5 0 11 [some (.ref 0), some (.int (nI i)), some (.int (nI j)), some (.int l), none, none] [.int (iz_ (some j))] (hp_SH ++ dy, g, r) [] rfl trivial rfl rfl (fun q => False.elim (one0 q)) (fun _ => ?_)
      by_cases h1 : l = -1
      · rw [show gl_ A l = some none from if_pos h1]
        refine mm_I ok_Sc_give 6 2 16 [some (.ref 0), some (.int (nI i)), some (.int (nI j)), some (.int l), none, none] [.int (-1), .int l] (hp_SH ++ dy, g, r) [] rfl trivial rfl rfl (fun _ => ?_) (fun q => False.elim (q h1))
        exact hgo none h1
      · cases hx : ix_ A.1.1 l with
        | none =>
          rw [show gl_ A l = none by unfold gl_; rw [if_neg h1, hx]]
          refine mm_I ok_Sc_give 6 2 16 [some (.ref 0), some (.int (nI i)), some (.int (nI j)), some (.int l), none, none] [.int (-1), .int l] (hp_SH ++ dy, g, r) [] rfl trivial rfl rfl (fun q => False.elim (h1 q)) (fun _ => ?_)
          refine mm_B ok_Sc_give 9 2 (21, [some (.ref 0), some (.int (nI i)), some (.int (nI j)), some (.int l), none, none], [.int l, .ref 0], (hp_SH ++ dy, g, r)) [] rfl trivial ?_
          refine mm_cV (as := [.int l]) (st := []) (q := 0) cw_Sc_isLesson lk_Sc_102 in_Sc_isLesson sl_Sc_isLesson rfl rfl (mm_at ok_Sc_give (i := 11) rfl).1 (ct_Sc_isLesson dy g r l) (by decide) ⟨by omega, by omega⟩ (Nat.le_of_ble_eq_true rfl) (mm_vs_b (b := 77) rfl (hp_len dy)) (fun v h' hqq => ?_)
          obtain ⟨rfl, hqe⟩ := hqq; rw [hqe]
          rw [lx_ e20 l, hx]
          refine mm_I ok_Sc_give 12 0 24 [some (.ref 0), some (.int (nI i)), some (.int (nI j)), some (.int l), none, none] [.int (iz_ none)] (hp_SH ++ dy, g, r) [] rfl trivial rfl rfl (fun q => False.elim (q rfl)) (fun _ => ?_)
          refine mm_B ok_Sc_give 13 1 (29, [some (.ref 0), some (.int (nI i)), some (.int (nI j)), some (.int l), none, none], [.int (-2)], (hp_SH ++ dy, g, r)) [] rfl trivial ?_
          exact mm_ri rfl (mm_at ok_Sc_give (i := 14) rfl).1 ⟨Nat.le_refl _, Nat.le_refl _⟩ (RC_q rfl hI fr_.rf)
        | some k =>
          rw [show gl_ A l = some (some k) by unfold gl_; rw [if_neg h1, hx]]
          refine mm_I ok_Sc_give 6 2 16 [some (.ref 0), some (.int (nI i)), some (.int (nI j)), some (.int l), none, none] [.int (-1), .int l] (hp_SH ++ dy, g, r) [] rfl trivial rfl rfl (fun q => False.elim (h1 q)) (fun _ => ?_)
          refine mm_B ok_Sc_give 9 2 (21, [some (.ref 0), some (.int (nI i)), some (.int (nI j)), some (.int l), none, none], [.int l, .ref 0], (hp_SH ++ dy, g, r)) [] rfl trivial ?_
          refine mm_cV (as := [.int l]) (st := []) (q := 0) cw_Sc_isLesson lk_Sc_102 in_Sc_isLesson sl_Sc_isLesson rfl rfl (mm_at ok_Sc_give (i := 11) rfl).1 (ct_Sc_isLesson dy g r l) (by decide) ⟨by omega, by omega⟩ (Nat.le_of_ble_eq_true rfl) (mm_vs_b (b := 77) rfl (hp_len dy)) (fun v h' hqq => ?_)
          obtain ⟨rfl, hqe⟩ := hqq; rw [hqe]
          rw [lx_ e20 l, hx]
          refine mm_I ok_Sc_give 12 0 24 [some (.ref 0), some (.int (nI i)), some (.int (nI j)), some (.int l), none, none] [.int (iz_ (some k))] (hp_SH ++ dy, g, r) [] rfl trivial rfl rfl (fun _ => ?_) (fun q => False.elim (one0 q))
          exact hgo (some k) (ix_some (by omega) hx).2
theorem cm_give (dy : List mm_Sh) (g : Nat → Nat → Int32) (r : (Nat → Nat → Int64) × Nat × (Nat → Int32)) {A : sA} (hI : MI (nr_ g) A) (hSI : SI A) (x b l : Int32) : mm_Ct 12 M_Mo_give [.ref 52, .int x, .int b, .int l] (hp_SH ++ dy, g, r) 0 0 (RM dy g r (an_give A x b l).2 (.int (an_give A x b l).1)) := by
  have hI' := hI
  obtain ⟨hL, hK, hPl, hX, hB, hS, hIm⟩ := hI'
  have hR := dX_R hX
  have h4 := hL.2.1
  have h16 := p2_16 h4
  have h6 := hK.2.1
  have e10 : g 52 10 = nI A.1.1 := by rw [← nr_eq g (k := 52) (j := 10) rfl]; exact hL.1
  have e14 : g 52 14 = nI A.2.1.1 := by rw [← nr_eq g (k := 52) (j := 14) rfl]; exact hK.1
  have hpl : ∀ b, b < 6 → g 62 b = pl_c (A.2.2.1.1 b) := fun b hb => by rw [← nr_eq g (k := 62) (j := b) rfl]; exact (hPl b hb).1
  have hot : ∀ b, b < 6 → g 62 (6 + b) = pl_c (A.2.2.1.2 b) := fun b hb => by rw [← nr_eq g (k := 62) (j := 6 + b) rfl]; exact (hPl b hb).2
  have hpo : ∀ b l, b < 6 → A.2.2.1.1 b = some l → l < A.1.1 := fun b l hb h => hSI.1 b l hb (Or.inl h)
  refine mm_start pl_Mo (Nat.le_of_ble_eq_true rfl) ?_
  cases hx1 : ix_ 2 x with
  | none =>
    rw [show an_give A x b l = (-2, A) by unfold an_give; rw [hx1]]
    refine mm_B ok_Mo_give 0 4 (4, [some (.ref 52), some (.int x), some (.int b), some (.int l), none], [.long 1, .long 0, .long (x).toInt64], (hp_SH ++ dy, g, r)) [] rfl trivial ?_
    refine mm_cS (as := [.long (x).toInt64, .long 0, .long 1]) (st := []) cw_Mo_in lk_Mo_100 sx_Mo_in (mm_at ok_Mo_give (i := 4) rfl).1 (ct_Mo_in (hp_SH ++ dy, g, r) x.toInt64 0 1) (by decide) ⟨by omega, by omega⟩ (Nat.le_of_ble_eq_true rfl) (mm_vs_b (b := 77) rfl (hp_len dy)) (fun v h' hqq => ?_)
    obtain ⟨rfl, hqe⟩ := hqq; rw [hqe]
    rw [in_2 x, hx1]
    refine mm_I ok_Mo_give 5 0 7 [some (.ref 52), some (.int x), some (.int b), some (.int l), none] [.int (iz_ none)] (hp_SH ++ dy, g, r) [] rfl trivial rfl rfl (fun _ => ?_) (fun q => False.elim (q rfl))
    refine mm_B ok_Mo_give 19 1 (37, [some (.ref 52), some (.int x), some (.int b), some (.int l), none], [.int (-2)], (hp_SH ++ dy, g, r)) [] rfl trivial ?_
    exact mm_ri rfl (mm_at ok_Mo_give (i := 20) rfl).1 ⟨Nat.le_refl _, Nat.le_refl _⟩ (RM_q rfl hI fr_.rf)
  | some i =>
    obtain ⟨hl1, rfl⟩ := ix_some (by omega) hx1
    cases hx2 : ix_ 6 b with
    | none =>
      rw [show an_give A (nI i) b l = (-2, A) by unfold an_give; rw [hx1, hx2]]
      refine mm_B ok_Mo_give 0 4 (4, [some (.ref 52), some (.int (nI i)), some (.int b), some (.int l), none], [.long 1, .long 0, .long ((nI i)).toInt64], (hp_SH ++ dy, g, r)) [] rfl trivial ?_
      refine mm_cS (as := [.long ((nI i)).toInt64, .long 0, .long 1]) (st := []) cw_Mo_in lk_Mo_100 sx_Mo_in (mm_at ok_Mo_give (i := 4) rfl).1 (ct_Mo_in (hp_SH ++ dy, g, r) (nI i).toInt64 0 1) (by decide) ⟨by omega, by omega⟩ (Nat.le_of_ble_eq_true rfl) (mm_vs_b (b := 77) rfl (hp_len dy)) (fun v h' hqq => ?_)
      obtain ⟨rfl, hqe⟩ := hqq; rw [hqe]
      rw [in_2 (nI i), ix_at hl1 (by omega)]
      refine mm_I ok_Mo_give 5 0 7 [some (.ref 52), some (.int (nI i)), some (.int b), some (.int l), none] [.int (iz_ (some i))] (hp_SH ++ dy, g, r) [] rfl trivial rfl rfl (fun q => False.elim (one0 q)) (fun _ => ?_)
      refine mm_B ok_Mo_give 6 4 (16, [some (.ref 52), some (.int (nI i)), some (.int b), some (.int l), none], [.long 5, .long 0, .long (b).toInt64], (hp_SH ++ dy, g, r)) [] rfl trivial ?_
      refine mm_cS (as := [.long (b).toInt64, .long 0, .long 5]) (st := []) cw_Mo_in lk_Mo_100 sx_Mo_in (mm_at ok_Mo_give (i := 10) rfl).1 (ct_Mo_in (hp_SH ++ dy, g, r) b.toInt64 0 5) (by decide) ⟨by omega, by omega⟩ (Nat.le_of_ble_eq_true rfl) (mm_vs_b (b := 77) rfl (hp_len dy)) (fun v h' hqq => ?_)
      obtain ⟨rfl, hqe⟩ := hqq; rw [hqe]
      rw [in_6 b, hx2]
      refine mm_I ok_Mo_give 11 0 19 [some (.ref 52), some (.int (nI i)), some (.int b), some (.int l), none] [.int (iz_ none)] (hp_SH ++ dy, g, r) [] rfl trivial rfl rfl (fun _ => ?_) (fun q => False.elim (q rfl))
      refine mm_B ok_Mo_give 19 1 (37, [some (.ref 52), some (.int (nI i)), some (.int b), some (.int l), none], [.int (-2)], (hp_SH ++ dy, g, r)) [] rfl trivial ?_
      exact mm_ri rfl (mm_at ok_Mo_give (i := 20) rfl).1 ⟨Nat.le_refl _, Nat.le_refl _⟩ (RM_q rfl hI fr_.rf)
    | some j =>
      obtain ⟨hl2, rfl⟩ := ix_some (by omega) hx2
      rw [show an_give A (nI i) (nI j) l = (match gl_ A l with | some v => (pl_c (if i = 0 then A.2.2.1.1 j else A.2.2.1.2 j), nx_give A i j v) | none => (-2, A)) from by unfold an_give; rw [hx1, hx2]]
      have e6 : (6 : Int32) * nI i + nI j = nI (6 * i + j) := by rw [show (6 : Int32) * nI i = nI (6 * i) from (Int32.ofNat_mul 6 i).symm, nI_add]
      have hgo : ∀ v : Option Nat, l = pl_c v → mm_W 12 M_Mo_give 0 0 (RM dy g r (nx_give A i j v) (.int (pl_c (if i = 0 then A.2.2.1.1 j else A.2.2.1.2 j)))) 0 0 (38, [some (.ref 52), some (.int (nI i)), some (.int (nI j)), some (.int l), none], [], (hp_SH ++ dy, g, r)) := fun v hv => by
        subst hv
        have hpu := dP_pu hPl hl1 hl2 (v := v)
        refine mm_B ok_Mo_give 21 19 (65, [some (.ref 52), some (.int (nI i)), some (.int (nI j)), some (.int (pl_c v)), some (.int (g 62 (((6 * (nI i)) + (nI j)).toNatClampNeg)))], [.int (g 62 (((6 * (nI i)) + (nI j)).toNatClampNeg))], (hp_SH ++ dy, mm_up g 62 (((6 * (nI i)) + (nI j)).toNatClampNeg) (pl_c v), r)) [vp_in ((6 * (nI i)) + (nI j)) 12, vp_in ((6 * (nI i)) + (nI j)) 12] rfl (show (vp_in ((6 * (nI i)) + (nI j)) 12) ∧ (vp_in ((6 * (nI i)) + (nI j)) 12) from ⟨((by rw [e6]; exact nI_vi (by omega) (by decide))), ((by rw [e6]; exact nI_vi (by omega) (by decide)))⟩) ?_
        rw [e6, nI_clamp (by omega), show g 62 (6 * i + j) = pl_c (if i = 0 then A.2.2.1.1 j else A.2.2.1.2 j) by rcases (show i = 0 ∨ i = 1 by omega) with rfl | rfl; (rw [if_pos rfl, show 6 * 0 + j = j by omega]; exact hpl j hl2); (rw [if_neg (by decide)]; exact hot j hl2)]
        exact mm_ri rfl (mm_at ok_Mo_give (i := 40) rfl).1 ⟨Nat.le_refl _, Nat.le_refl _⟩ (RM_g rfl (MI_plan hI hpu (fun a j' h => by rw [up_off (by omega)])) (fun a j' h1 => by rw [up_off (by omega)]))
      refine mm_B ok_Mo_give 0 4 (4, [some (.ref 52), some (.int (nI i)), some (.int (nI j)), some (.int l), none], [.long 1, .long 0, .long ((nI i)).toInt64], (hp_SH ++ dy, g, r)) [] rfl trivial ?_
      refine mm_cS (as := [.long ((nI i)).toInt64, .long 0, .long 1]) (st := []) cw_Mo_in lk_Mo_100 sx_Mo_in (mm_at ok_Mo_give (i := 4) rfl).1 (ct_Mo_in (hp_SH ++ dy, g, r) (nI i).toInt64 0 1) (by decide) ⟨by omega, by omega⟩ (Nat.le_of_ble_eq_true rfl) (mm_vs_b (b := 77) rfl (hp_len dy)) (fun v h' hqq => ?_)
      obtain ⟨rfl, hqe⟩ := hqq; rw [hqe]
      rw [in_2 (nI i), ix_at hl1 (by omega)]
      refine mm_I ok_Mo_give 5 0 7 [some (.ref 52), some (.int (nI i)), some (.int (nI j)), some (.int l), none] [.int (iz_ (some i))] (hp_SH ++ dy, g, r) [] rfl trivial rfl rfl (fun q => False.elim (one0 q)) (fun _ => ?_)
      refine mm_B ok_Mo_give 6 4 (16, [some (.ref 52), some (.int (nI i)), some (.int (nI j)), some (.int l), none], [.long 5, .long 0, .long ((nI j)).toInt64], (hp_SH ++ dy, g, r)) [] rfl trivial ?_
      refine mm_cS (as := [.long ((nI j)).toInt64, .long 0, .long 5]) (st := []) cw_Mo_in lk_Mo_100 sx_Mo_in (mm_at ok_Mo_give (i := 10) rfl).1 (ct_Mo_in (hp_SH ++ dy, g, r) (nI j).toInt64 0 5) (by decide) ⟨by omega, by omega⟩ (Nat.le_of_ble_eq_true rfl) (mm_vs_b (b := 77) rfl (hp_len dy)) (fun v h' hqq => ?_)
      obtain ⟨rfl, hqe⟩ := hqq; rw [hqe]
      rw [in_6 (nI j), ix_at hl2 (by omega)]
      refine mm_I ok_Mo_give 11 0 19 [some (.ref 52), some (.int (nI i)), some (.int (nI j)), some (.int l), none] [.int (iz_ (some j))] (hp_SH ++ dy, g, r) [] rfl trivial rfl rfl (fun q => False.elim (one0 q)) (fun _ => ?_)
      by_cases h1 : l = -1
      · rw [show gl_ A l = some none from if_pos h1]
        refine mm_I ok_Mo_give 12 2 24 [some (.ref 52), some (.int (nI i)), some (.int (nI j)), some (.int l), none] [.int (-1), .int l] (hp_SH ++ dy, g, r) [] rfl trivial rfl rfl (fun _ => ?_) (fun q => False.elim (q h1))
        exact hgo none h1
      · cases hx : ix_ A.1.1 l with
        | none =>
          rw [show gl_ A l = none by unfold gl_; rw [if_neg h1, hx]]
          refine mm_I ok_Mo_give 12 2 24 [some (.ref 52), some (.int (nI i)), some (.int (nI j)), some (.int l), none] [.int (-1), .int l] (hp_SH ++ dy, g, r) [] rfl trivial rfl rfl (fun q => False.elim (h1 q)) (fun _ => ?_)
          refine mm_B ok_Mo_give 15 2 (29, [some (.ref 52), some (.int (nI i)), some (.int (nI j)), some (.int l), none], [.int l, .ref 52], (hp_SH ++ dy, g, r)) [] rfl trivial ?_
          refine mm_cV (as := [.int l]) (st := []) (q := 52) cw_Mo_isLesson lk_Mo_117 in_Mo_isLesson sl_Mo_isLesson rfl rfl (mm_at ok_Mo_give (i := 17) rfl).1 (ct_Mo_isLesson dy g r l) (by decide) ⟨by omega, by omega⟩ (Nat.le_of_ble_eq_true rfl) (mm_vs_b (b := 77) rfl (hp_len dy)) (fun v h' hqq => ?_)
          obtain ⟨rfl, hqe⟩ := hqq; rw [hqe]
          rw [ml_x (by omega) e10 l, hx]
          refine mm_I ok_Mo_give 18 0 32 [some (.ref 52), some (.int (nI i)), some (.int (nI j)), some (.int l), none] [.int (iz_ none)] (hp_SH ++ dy, g, r) [] rfl trivial rfl rfl (fun q => False.elim (q rfl)) (fun _ => ?_)
          refine mm_B ok_Mo_give 19 1 (37, [some (.ref 52), some (.int (nI i)), some (.int (nI j)), some (.int l), none], [.int (-2)], (hp_SH ++ dy, g, r)) [] rfl trivial ?_
          exact mm_ri rfl (mm_at ok_Mo_give (i := 20) rfl).1 ⟨Nat.le_refl _, Nat.le_refl _⟩ (RM_q rfl hI fr_.rf)
        | some k =>
          rw [show gl_ A l = some (some k) by unfold gl_; rw [if_neg h1, hx]]
          refine mm_I ok_Mo_give 12 2 24 [some (.ref 52), some (.int (nI i)), some (.int (nI j)), some (.int l), none] [.int (-1), .int l] (hp_SH ++ dy, g, r) [] rfl trivial rfl rfl (fun q => False.elim (h1 q)) (fun _ => ?_)
          refine mm_B ok_Mo_give 15 2 (29, [some (.ref 52), some (.int (nI i)), some (.int (nI j)), some (.int l), none], [.int l, .ref 52], (hp_SH ++ dy, g, r)) [] rfl trivial ?_
          refine mm_cV (as := [.int l]) (st := []) (q := 52) cw_Mo_isLesson lk_Mo_117 in_Mo_isLesson sl_Mo_isLesson rfl rfl (mm_at ok_Mo_give (i := 17) rfl).1 (ct_Mo_isLesson dy g r l) (by decide) ⟨by omega, by omega⟩ (Nat.le_of_ble_eq_true rfl) (mm_vs_b (b := 77) rfl (hp_len dy)) (fun v h' hqq => ?_)
          obtain ⟨rfl, hqe⟩ := hqq; rw [hqe]
          rw [ml_x (by omega) e10 l, hx]
          refine mm_I ok_Mo_give 18 0 32 [some (.ref 52), some (.int (nI i)), some (.int (nI j)), some (.int l), none] [.int (iz_ (some k))] (hp_SH ++ dy, g, r) [] rfl trivial rfl rfl (fun _ => ?_) (fun q => False.elim (one0 q))
          exact hgo (some k) (ix_some (by omega) hx).2

