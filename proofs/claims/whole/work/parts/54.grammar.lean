/-! ===== Reader's grammar ===== -/
def f4_ (k j : Nat) : Bool := (k == 31 && (j == 2 || j == 3 || j == 4 || j == 6)) || k == 33
theorem f4_nr : ∀ k j, nr_s k j = false → f4_ k j = false := by
  intro k j h
  unfold f4_
  cases h33 : k == 33 with
  | true => rw [show k = 33 by simpa using h33] at h; cases h
  | false =>
    cases h13 : k == 31 with
    | true =>
      rw [show k = 31 by simpa using h13] at h
      have h2 : Nat.ble 2 j = false := h
      cases hj : (j == 2 || j == 3 || j == 4 || j == 6) with
      | true =>
        simp at hj
        rcases hj with ((rfl | rfl) | rfl) | rfl <;> cases h2
      | false => rfl
    | false => rfl
theorem f4_f3 : ∀ k j, f4_ k j = false → f3_ k j = false := by
  intro k j h
  unfold f4_ at h
  unfold f3_
  cases h13 : k == 31 with
  | true =>
    rw [h13] at h
    cases h2 : j == 2 <;> cases h3 : j == 3 <;> cases h4 : j == 4 <;> simp [h2, h3, h4] at h ⊢
  | false => rfl
/-- Reader stands at the token behind q, and has written cd -/
def rs_S (B : Nat → Int32) (n : Nat) (g : Nat → Nat → Int32) (q : Nat) (cd : List Int32) : Prop := g 31 2 = nI (ts_ B n q) ∧ g 31 3 = nI (nx_ B n q) ∧ g 31 4 = tk_ B n q ∧ g 31 6 = nI cd.length ∧ ∀ i, i < cd.length → g 33 i = cd.getD i 0
theorem rs_adv {B : Nat → Int32} {n q : Nat} {g g' : Nat → Nat → Int32} {cd : List Int32} (h : rs_S B n g q cd) (hF : fr_ f3_ g g') (a2 : g' 31 2 = nI (ts_ B n (nx_ B n q))) (a3 : g' 31 3 = nI (nx_ B n (nx_ B n q))) (a4 : g' 31 4 = tk_ B n (nx_ B n q)) : rs_S B n g' (nx_ B n q) cd :=
  ⟨a2, a3, a4, by rw [hF 31 6 rfl]; exact h.2.2.2.1, fun i hi => by rw [hF 33 i rfl]; exact h.2.2.2.2 i hi⟩
def rs_Q (dy : List mm_Sh) (r : (Nat → Nat → Int64) × Nat × (Nat → Int32)) (B : Nat → Int32) (n : Nat) (g : Nat → Nat → Int32) (cd : List Int32) : (Nat × List Int32) ⊕ Nat → Option Value → mm_Hp → Prop
  | .inl y => fun v h' => v = some (.int 1) ∧ ∃ g', h' = (hp_SH ++ dy, g', r) ∧ fr_ f4_ g g' ∧ rs_S B n g' y.1 (cd ++ y.2)
  | .inr e => fun v h' => v = some (.int 0) ∧ ∃ g', h' = (hp_SH ++ dy, g', r) ∧ fr_ f4_ g g' ∧ g' 31 2 = nI e
def dp_ (lev o : Nat) : Nat := 7 * (5 - o) + (7 - lev) + 8
def rs_M : Nat → mm_M
  | 0 => M_Re_either
  | 1 => M_Re_both
  | 2 => M_Re_denied
  | 3 => M_Re_compared
  | 4 => M_Re_sum
  | 5 => M_Re_term
  | _ => M_Re_one
/-- what the grammar's methods do, with fuel f -/
def rs_P (dy : List mm_Sh) (P : Nat → Nat → Int32) (r : (Nat → Nat → Int64) × Nat × (Nat → Int32)) (B : Nat → Int32) (n f : Nat) : Prop :=
  ∀ (lev o q : Nat) (res : (Nat × List Int32) ⊕ Nat) (g : Nat → Nat → Int32) (cd : List Int32), lev ≤ 6 → o ≤ 5 → q ≤ n → ps_ B n f lev o q = some res → nr_ g = P → rs_S B n g q cd → cd.length + 5 ≤ q → mm_Ct (dp_ lev o) (rs_M lev) [.ref 31, .int (nI o)] (hp_SH ++ dy, g, r) 0 0 (rs_Q dy r B n g cd res)
theorem rq_tr {dy : List mm_Sh} {r : (Nat → Nat → Int64) × Nat × (Nat → Int32)} {B : Nat → Int32} {n : Nat} {g g' : Nat → Nat → Int32} {cd c1 c2 : List Int32} {q : Nat} {v : Option Value} {h' : mm_Hp} (hF : fr_ f4_ g g') (h : rs_Q dy r B n g' (cd ++ c1) (.inl (q, c2)) v h') : rs_Q dy r B n g cd (.inl (q, c1 ++ c2)) v h' := by
  obtain ⟨h1, g2, h2, h3, h4⟩ := h
  exact ⟨h1, g2, h2, hF.tr h3, by rw [← List.append_assoc]; exact h4⟩
theorem rq_te {dy : List mm_Sh} {r : (Nat → Nat → Int64) × Nat × (Nat → Int32)} {B : Nat → Int32} {n : Nat} {g g' : Nat → Nat → Int32} {cd cd' : List Int32} {e : Nat} {v : Option Value} {h' : mm_Hp} (hF : fr_ f4_ g g') (h : rs_Q dy r B n g' cd' (.inr e) v h') : rs_Q dy r B n g cd (.inr e) v h' := by
  obtain ⟨h1, g2, h2, h3, h4⟩ := h
  exact ⟨h1, g2, h2, hF.tr h3, h4⟩
theorem ws_at {g : Nat → Nat → Int32} {cd : List Int32} {x v : Int32} (hL : cd.length < 160) (h6 : g 31 6 = nI cd.length) (h33 : ∀ i, i < cd.length → g 33 i = cd.getD i 0) {i : Nat} (hi : i < (cd ++ [x]).length) : mm_up (mm_up g 33 (g 31 6).toNatClampNeg x) 31 6 v 33 i = (cd ++ [x]).getD i 0 := by
  rw [h6, nI_clamp (show cd.length < 2 ^ 31 by omega)]
  show mm_up g 33 cd.length x 33 i = _
  rw [mm_up_eq]
  rw [List.length_append, List.length_singleton] at hi
  by_cases e : i = cd.length
  · subst e
    simp [upd]
  · have hi2 : i < cd.length := by omega
    rw [List.getD_eq_getElem?_getD, List.getElem?_append_left hi2, ← List.getD_eq_getElem?_getD, ← h33 i hi2]
    simp [upd, e]
theorem ct_Re_write (dy : List mm_Sh) (g : Nat → Nat → Int32) (r : (Nat → Nat → Int64) × Nat × (Nat → Int32)) {B : Nat → Int32} {n q : Nat} {cd : List Int32} (hS : rs_S B n g q cd) (hL : cd.length < 160) (x : Int32) : mm_Ct 1 M_Re_write [.ref 31, .int x] (hp_SH ++ dy, g, r) 0 0 (fun v h' => v = none ∧ ∃ g', h' = (hp_SH ++ dy, g', r) ∧ fr_ f4_ g g' ∧ rs_S B n g' q (cd ++ [x])) := by
  obtain ⟨h2, h3, h4, h6, h33⟩ := hS
  refine mm_start pl_Re (Nat.le_of_ble_eq_true rfl) ?_
  refine mm_B ok_Re_write 0 5 (9, [some (.ref 31), some (.int x)], [.int (nI 160), .int (g 31 6)], (hp_SH ++ dy, g, r)) [] rfl trivial ?_
  rw [h6]
  refine mm_I ok_Re_write 5 0 9 [some (.ref 31), some (.int x)] [.int (nI 160), .int (nI cd.length)] (hp_SH ++ dy, g, r) [] rfl trivial rfl rfl (fun q => False.elim (nI_ge hL (by omega) q)) (fun _ => ?_)
  refine mm_B ok_Re_write 6 12 (32, [some (.ref 31), some (.int x)], [], (hp_SH ++ dy, mm_up (mm_up g 33 ((g 31 6).toNatClampNeg) x) 31 6 ((g 31 6) + 1), r)) [vp_in (g 31 6) 160] rfl (show vp_in (g 31 6) 160 from (by rw [h6]; exact nI_vi hL (by decide))) ?_
  exact mm_r0 rfl (mm_at ok_Re_write (i := 18) rfl).1 ⟨Nat.le_refl _, Nat.le_refl _⟩ (⟨rfl, _, rfl, ((fr_.rf.up _ rfl).up _ rfl), h2, h3, h4, by rw [List.length_append, h6]; exact nI_1 _, fun i hi => ws_at hL h6 h33 hi⟩)

theorem rs_lp_either (dy : List mm_Sh) (P : Nat → Nat → Int32) (r : (Nat → Nat → Int64) × Nat × (Nat → Int32)) {B : Nat → Int32} {n : Nat} (hN : P 31 1 = nI n) (hn : n ≤ 160) (hB : ∀ j, j < n → P 32 j = B j) {F : Nat} (IH : ∀ f, f < F → rs_P dy P r B n f) : ∀ (f : Nat), f ≤ F → ∀ (o q1 j : Nat) (res2 : (Nat × List Int32) ⊕ Nat) (g1 : Nat → Nat → Int32) (cacc : List Int32) (Q : Option Value → mm_Hp → Prop), o ≤ 5 → q1 ≤ n → j ≤ q1 → ps_ B n f (0 + 10) o q1 = some res2 → nr_ g1 = P → rs_S B n g1 q1 cacc → cacc.length + 5 ≤ q1 → (∀ v h', rs_Q dy r B n g1 cacc res2 v h' → Q v h') → mm_W (dp_ 0 o) M_Re_either 0 0 Q 0 0 (12, [some (.ref 31), some (.int (nI o)), some (.int (nI j))], [], (hp_SH ++ dy, g1, r)) := by
  intro f
  induction f with
  | zero => intro _ o q1 j res2 g1 cacc Q _ _ _ h; cases h
  | succ f ih =>
    intro hfF o q1 j res2 g1 cacc Q ho hq1 hj hps hP1 hS hlen hQ
    have htk := hS.2.2.1
    rcases ps_l hps with ⟨h1, h2⟩ | ⟨h1, rfl⟩
    · skip
      have h1e : tk_ B n q1 = -7 := h1
      rw [h1e] at htk h2
      have hx := nx_lt B (n := n) (q := q1) (by rw [h1e]; decide)
      have hx2 := nx_ub B hq1
      refine mm_B ok_Re_either 8 2 (16, [some (.ref 31), some (.int (nI o)), some (.int (nI j))], [.int 160, .int (nI j)], (hp_SH ++ dy, g1, r)) [] rfl trivial ?_
      refine mm_I ok_Re_either 10 0 16 [some (.ref 31), some (.int (nI o)), some (.int (nI j))] [.int 160, .int (nI j)] (hp_SH ++ dy, g1, r) [] rfl trivial rfl rfl (fun q => False.elim (absurd q (nI_ge (b := 160) (show j < 160 by omega) (by decide)))) (fun _ => ?_)
      refine mm_B ok_Re_either 11 3 (25, [some (.ref 31), some (.int (nI o)), some (.int (nI j))], [.int (-7), .int (g1 31 4)], (hp_SH ++ dy, g1, r)) [] rfl trivial ?_
      rw [htk]
      refine mm_I ok_Re_either 14 0 25 [some (.ref 31), some (.int (nI o)), some (.int (nI j))] [.int (-7), .int (-7)] (hp_SH ++ dy, g1, r) [] rfl trivial rfl rfl (fun q => False.elim (q rfl)) (fun _ => ?_)
      refine mm_B ok_Re_either 15 1 (29, [some (.ref 31), some (.int (nI o)), some (.int (nI j))], [.ref 31], (hp_SH ++ dy, g1, r)) [] rfl trivial ?_
      refine mm_cV (as := []) (st := []) (q := 31) cw_Re_advance lk_Re_22 in_Re_advance sl_Re_advance rfl rfl (mm_at ok_Re_either (i := 16) rfl).1 (ct_Re_advance dy g1 P r hP1 hN hn hB hx2 hS.2.1) (by unfold dp_; omega) ⟨by omega, by omega⟩ (Nat.le_of_ble_eq_true rfl) (mm_vs_b (b := 77) rfl (hp_len dy)) (fun v h' hqq => ?_)
      obtain ⟨rfl, g2, hqe, hF2, a2, a3, a4⟩ := hqq; rw [hqe]
      have hP2 := hF2.nr f3_nr hP1
      have hS2 := rs_adv hS hF2 a2 a3 a4
      refine mm_B ok_Re_either 17 2 (34, [some (.ref 31), some (.int (nI o)), some (.int (nI j))], [.int (nI o), .ref 31], (hp_SH ++ dy, g2, r)) [] rfl trivial ?_
      rcases pb_inv h2 with ⟨e, h4, rfl⟩ | ⟨q2, c2, h4, h5⟩
      · refine mm_cV (as := [.int (nI o)]) (st := []) (q := 31) cw_Re_both lk_Re_53 in_Re_both sl_Re_both rfl rfl (mm_at ok_Re_either (i := 19) rfl).1 (IH f (by omega) 1 o (nx_ B n q1) (.inr e) g2 cacc (by decide) ho hx2 h4 hP2 hS2 (by omega)) (by unfold dp_; omega) ⟨by omega, by omega⟩ (Nat.le_of_ble_eq_true rfl) (mm_vs_b (b := 77) rfl (hp_len dy)) (fun v h' hqq => ?_)
        obtain ⟨rfl, g3, hqe, hF3, h32⟩ := hqq; rw [hqe]
        refine mm_I ok_Re_either 20 0 37 [some (.ref 31), some (.int (nI o)), some (.int (nI j))] [.int 0] (hp_SH ++ dy, g3, r) [] rfl trivial rfl rfl (fun q => False.elim (q rfl)) (fun _ => ?_)
        refine mm_B ok_Re_either 21 1 (41, [some (.ref 31), some (.int (nI o)), some (.int (nI j))], [.int 0], (hp_SH ++ dy, g3, r)) [] rfl trivial ?_
        exact mm_rz rfl (mm_at ok_Re_either (i := 22) rfl).1 ⟨Nat.le_refl _, Nat.le_refl _⟩ (Or.inl rfl) (hQ _ _ ⟨rfl, g3, rfl, (hF2.mono f4_f3).tr hF3, h32⟩)
      · refine mm_cV (as := [.int (nI o)]) (st := []) (q := 31) cw_Re_both lk_Re_53 in_Re_both sl_Re_both rfl rfl (mm_at ok_Re_either (i := 19) rfl).1 (IH f (by omega) 1 o (nx_ B n q1) (.inl (q2, c2)) g2 cacc (by decide) ho hx2 h4 hP2 hS2 (by omega)) (by unfold dp_; omega) ⟨by omega, by omega⟩ (Nat.le_of_ble_eq_true rfl) (mm_vs_b (b := 77) rfl (hp_len dy)) (fun v h' hqq => ?_)
        obtain ⟨rfl, g3, hqe, hF3, hS3⟩ := hqq; rw [hqe]
        refine mm_I ok_Re_either 20 0 37 [some (.ref 31), some (.int (nI o)), some (.int (nI j))] [.int 1] (hp_SH ++ dy, g3, r) [] rfl trivial rfl rfl (fun _ => ?_) (fun q => False.elim (absurd q (by decide)))
        refine mm_B ok_Re_either 23 2 (45, [some (.ref 31), some (.int (nI o)), some (.int (nI j))], [.int (-7), .ref 31], (hp_SH ++ dy, g3, r)) [] rfl trivial ?_
        have hl2 := ps_len f _ _ _ _ _ hx2 h4
        have hl3 : (cacc ++ c2).length = cacc.length + c2.length := List.length_append
        refine mm_cV (as := [.int (-7)]) (st := []) (q := 31) cw_Re_write lk_Re_56 in_Re_write sl_Re_write rfl rfl (mm_at ok_Re_either (i := 25) rfl).1 (ct_Re_write dy g3 r hS3 (show (cacc ++ c2).length < 160 by omega) (-7)) (by unfold dp_; omega) ⟨by omega, by omega⟩ (Nat.le_of_ble_eq_true rfl) (mm_vs_b (b := 77) rfl (hp_len dy)) (fun v h' hqq => ?_)
        obtain ⟨rfl, g4, hqe, hF4, hS4⟩ := hqq; rw [hqe]
        refine mm_B ok_Re_either 26 2 (12, [some (.ref 31), some (.int (nI o)), some (.int ((nI j) + 1))], [], (hp_SH ++ dy, g4, r)) [] rfl trivial ?_
        rw [nI_1]
        have hF14 := ((hF2.mono f4_f3).tr hF3).tr hF4
        have hP4 := hF14.nr f4_nr hP1
        have hl4 : (cacc ++ c2 ++ [-7]).length = cacc.length + c2.length + 1 := by rw [List.length_append, hl3]; rfl
        have hl5 := hl2.2 (by decide)
        rcases pb_inv h5 with ⟨e, h6, rfl⟩ | ⟨q3, c3, h6, h7⟩
        · exact ih (by omega) o q2 (j + 1) (.inr e) g4 (cacc ++ c2 ++ [-7]) Q ho hl2.1.2 (by omega) h6 hP4 hS4 (by omega) (fun v h' hr => hQ v h' (rq_te hF14 hr))
        · cases h7
          exact ih (by omega) o q2 (j + 1) (.inl (q3, c3)) g4 (cacc ++ c2 ++ [-7]) Q ho hl2.1.2 (by omega) h6 hP4 hS4 (by omega) (fun v h' hr => hQ v h' (rq_tr hF14 (by rw [← List.append_assoc]; exact hr)))
    · have hend : Q (some (.int 1)) (hp_SH ++ dy, g1, r) := hQ _ _ ⟨rfl, g1, rfl, fr_.rf, by rw [List.append_nil]; exact hS⟩
      refine mm_B ok_Re_either 8 2 (16, [some (.ref 31), some (.int (nI o)), some (.int (nI j))], [.int 160, .int (nI j)], (hp_SH ++ dy, g1, r)) [] rfl trivial ?_
      refine mm_I ok_Re_either 10 0 16 [some (.ref 31), some (.int (nI o)), some (.int (nI j))] [.int 160, .int (nI j)] (hp_SH ++ dy, g1, r) [] rfl trivial rfl rfl (fun q1 => ?_) (fun q1 => ?_)
      · refine mm_B ok_Re_either 28 1 (55, [some (.ref 31), some (.int (nI o)), some (.int (nI j))], [.int 1], (hp_SH ++ dy, g1, r)) [] rfl trivial ?_
        exact mm_rz rfl (mm_at ok_Re_either (i := 29) rfl).1 ⟨Nat.le_refl _, Nat.le_refl _⟩ (Or.inr rfl) (hend)
      · refine mm_B ok_Re_either 11 3 (25, [some (.ref 31), some (.int (nI o)), some (.int (nI j))], [.int (-7), .int (g1 31 4)], (hp_SH ++ dy, g1, r)) [] rfl trivial ?_
        refine mm_I ok_Re_either 14 0 25 [some (.ref 31), some (.int (nI o)), some (.int (nI j))] [.int (-7), .int (g1 31 4)] (hp_SH ++ dy, g1, r) [] rfl trivial rfl rfl (fun _ => ?_) (fun q => False.elim (h1 (htk ▸ q)))
        refine mm_B ok_Re_either 28 1 (55, [some (.ref 31), some (.int (nI o)), some (.int (nI j))], [.int 1], (hp_SH ++ dy, g1, r)) [] rfl trivial ?_
        exact mm_rz rfl (mm_at ok_Re_either (i := 29) rfl).1 ⟨Nat.le_refl _, Nat.le_refl _⟩ (Or.inr rfl) (hend)
theorem rs_c_either (dy : List mm_Sh) (P : Nat → Nat → Int32) (r : (Nat → Nat → Int64) × Nat × (Nat → Int32)) {B : Nat → Int32} {n : Nat} (hN : P 31 1 = nI n) (hn : n ≤ 160) (hB : ∀ j, j < n → P 32 j = B j) {f : Nat} (IH : ∀ f', f' < f + 1 → rs_P dy P r B n f') {o q : Nat} {res : (Nat × List Int32) ⊕ Nat} {g : Nat → Nat → Int32} {cd : List Int32} (ho : o ≤ 5) (hq : q ≤ n) (hps : ps_ B n (f + 1) 0 o q = some res) (hP : nr_ g = P) (hS : rs_S B n g q cd) (hlen : cd.length + 5 ≤ q) : mm_Ct (dp_ 0 o) M_Re_either [.ref 31, .int (nI o)] (hp_SH ++ dy, g, r) 0 0 (rs_Q dy r B n g cd res) := by
  refine mm_start pl_Re (Nat.le_of_ble_eq_true rfl) ?_
  refine mm_B ok_Re_either 0 2 (2, [some (.ref 31), some (.int (nI o)), none], [.int (nI o), .ref 31], (hp_SH ++ dy, g, r)) [] rfl trivial ?_
  rcases ps_c (by decide) hps with ⟨e, h4, rfl⟩ | ⟨q1, c1, h4, h5⟩
  · refine mm_cV (as := [.int (nI o)]) (st := []) (q := 31) cw_Re_both lk_Re_53 in_Re_both sl_Re_both rfl rfl (mm_at ok_Re_either (i := 2) rfl).1 (IH f (by omega) 1 o q (.inr e) g cd (by decide) ho hq h4 hP hS hlen) (by unfold dp_; omega) ⟨by omega, by omega⟩ (Nat.le_of_ble_eq_true rfl) (mm_vs_b (b := 77) rfl (hp_len dy)) (fun v h' hqq => ?_)
    obtain ⟨rfl, g3, hqe, hF3, h32⟩ := hqq; rw [hqe]
    refine mm_I ok_Re_either 3 0 5 [some (.ref 31), some (.int (nI o)), none] [.int 0] (hp_SH ++ dy, g3, r) [] rfl trivial rfl rfl (fun q => False.elim (q rfl)) (fun _ => ?_)
    refine mm_B ok_Re_either 4 1 (9, [some (.ref 31), some (.int (nI o)), none], [.int 0], (hp_SH ++ dy, g3, r)) [] rfl trivial ?_
    exact mm_rz rfl (mm_at ok_Re_either (i := 5) rfl).1 ⟨Nat.le_refl _, Nat.le_refl _⟩ (Or.inl rfl) (⟨rfl, g3, rfl, hF3, h32⟩)
  · refine mm_cV (as := [.int (nI o)]) (st := []) (q := 31) cw_Re_both lk_Re_53 in_Re_both sl_Re_both rfl rfl (mm_at ok_Re_either (i := 2) rfl).1 (IH f (by omega) 1 o q (.inl (q1, c1)) g cd (by decide) ho hq h4 hP hS hlen) (by unfold dp_; omega) ⟨by omega, by omega⟩ (Nat.le_of_ble_eq_true rfl) (mm_vs_b (b := 77) rfl (hp_len dy)) (fun v h' hqq => ?_)
    obtain ⟨rfl, g3, hqe, hF3, hS3⟩ := hqq; rw [hqe]
    refine mm_I ok_Re_either 3 0 5 [some (.ref 31), some (.int (nI o)), none] [.int 1] (hp_SH ++ dy, g3, r) [] rfl trivial rfl rfl (fun _ => ?_) (fun q => False.elim (absurd q (by decide)))
    refine mm_B ok_Re_either 6 2 (12, [some (.ref 31), some (.int (nI o)), some (.int 0)], [], (hp_SH ++ dy, g3, r)) [] rfl trivial ?_
    have hl2 := ps_len f _ _ _ _ _ hq h4
    have hl3 : (cd ++ c1).length = cd.length + c1.length := List.length_append
    have hP3 := hF3.nr f4_nr hP
    rcases pb_inv h5 with ⟨e, h6, rfl⟩ | ⟨q3, c3, h6, h7⟩
    · exact rs_lp_either dy P r hN hn hB IH f (by omega) o q1 0 (.inr e) g3 (cd ++ c1) _ ho hl2.1.2 (by omega) h6 hP3 hS3 (by omega) (fun v h' hr => rq_te hF3 hr)
    · cases h7
      exact rs_lp_either dy P r hN hn hB IH f (by omega) o q1 0 (.inl (q3, c3)) g3 (cd ++ c1) _ ho hl2.1.2 (by omega) h6 hP3 hS3 (by omega) (fun v h' hr => rq_tr hF3 hr)
theorem rs_lp_both (dy : List mm_Sh) (P : Nat → Nat → Int32) (r : (Nat → Nat → Int64) × Nat × (Nat → Int32)) {B : Nat → Int32} {n : Nat} (hN : P 31 1 = nI n) (hn : n ≤ 160) (hB : ∀ j, j < n → P 32 j = B j) {F : Nat} (IH : ∀ f, f < F → rs_P dy P r B n f) : ∀ (f : Nat), f ≤ F → ∀ (o q1 j : Nat) (res2 : (Nat × List Int32) ⊕ Nat) (g1 : Nat → Nat → Int32) (cacc : List Int32) (Q : Option Value → mm_Hp → Prop), o ≤ 5 → q1 ≤ n → j ≤ q1 → ps_ B n f (1 + 10) o q1 = some res2 → nr_ g1 = P → rs_S B n g1 q1 cacc → cacc.length + 5 ≤ q1 → (∀ v h', rs_Q dy r B n g1 cacc res2 v h' → Q v h') → mm_W (dp_ 1 o) M_Re_both 0 0 Q 0 0 (12, [some (.ref 31), some (.int (nI o)), some (.int (nI j))], [], (hp_SH ++ dy, g1, r)) := by
  intro f
  induction f with
  | zero => intro _ o q1 j res2 g1 cacc Q _ _ _ h; cases h
  | succ f ih =>
    intro hfF o q1 j res2 g1 cacc Q ho hq1 hj hps hP1 hS hlen hQ
    have htk := hS.2.2.1
    rcases ps_l hps with ⟨h1, h2⟩ | ⟨h1, rfl⟩
    · skip
      have h1e : tk_ B n q1 = -8 := h1
      rw [h1e] at htk h2
      have hx := nx_lt B (n := n) (q := q1) (by rw [h1e]; decide)
      have hx2 := nx_ub B hq1
      refine mm_B ok_Re_both 8 2 (16, [some (.ref 31), some (.int (nI o)), some (.int (nI j))], [.int 160, .int (nI j)], (hp_SH ++ dy, g1, r)) [] rfl trivial ?_
      refine mm_I ok_Re_both 10 0 16 [some (.ref 31), some (.int (nI o)), some (.int (nI j))] [.int 160, .int (nI j)] (hp_SH ++ dy, g1, r) [] rfl trivial rfl rfl (fun q => False.elim (absurd q (nI_ge (b := 160) (show j < 160 by omega) (by decide)))) (fun _ => ?_)
      refine mm_B ok_Re_both 11 3 (25, [some (.ref 31), some (.int (nI o)), some (.int (nI j))], [.int (-8), .int (g1 31 4)], (hp_SH ++ dy, g1, r)) [] rfl trivial ?_
      rw [htk]
      refine mm_I ok_Re_both 14 0 25 [some (.ref 31), some (.int (nI o)), some (.int (nI j))] [.int (-8), .int (-8)] (hp_SH ++ dy, g1, r) [] rfl trivial rfl rfl (fun q => False.elim (q rfl)) (fun _ => ?_)
      refine mm_B ok_Re_both 15 1 (29, [some (.ref 31), some (.int (nI o)), some (.int (nI j))], [.ref 31], (hp_SH ++ dy, g1, r)) [] rfl trivial ?_
      refine mm_cV (as := []) (st := []) (q := 31) cw_Re_advance lk_Re_22 in_Re_advance sl_Re_advance rfl rfl (mm_at ok_Re_both (i := 16) rfl).1 (ct_Re_advance dy g1 P r hP1 hN hn hB hx2 hS.2.1) (by unfold dp_; omega) ⟨by omega, by omega⟩ (Nat.le_of_ble_eq_true rfl) (mm_vs_b (b := 77) rfl (hp_len dy)) (fun v h' hqq => ?_)
      obtain ⟨rfl, g2, hqe, hF2, a2, a3, a4⟩ := hqq; rw [hqe]
      have hP2 := hF2.nr f3_nr hP1
      have hS2 := rs_adv hS hF2 a2 a3 a4
      refine mm_B ok_Re_both 17 2 (34, [some (.ref 31), some (.int (nI o)), some (.int (nI j))], [.int (nI o), .ref 31], (hp_SH ++ dy, g2, r)) [] rfl trivial ?_
      rcases pb_inv h2 with ⟨e, h4, rfl⟩ | ⟨q2, c2, h4, h5⟩
      · refine mm_cV (as := [.int (nI o)]) (st := []) (q := 31) cw_Re_denied lk_Re_60 in_Re_denied sl_Re_denied rfl rfl (mm_at ok_Re_both (i := 19) rfl).1 (IH f (by omega) 2 o (nx_ B n q1) (.inr e) g2 cacc (by decide) ho hx2 h4 hP2 hS2 (by omega)) (by unfold dp_; omega) ⟨by omega, by omega⟩ (Nat.le_of_ble_eq_true rfl) (mm_vs_b (b := 77) rfl (hp_len dy)) (fun v h' hqq => ?_)
        obtain ⟨rfl, g3, hqe, hF3, h32⟩ := hqq; rw [hqe]
        refine mm_I ok_Re_both 20 0 37 [some (.ref 31), some (.int (nI o)), some (.int (nI j))] [.int 0] (hp_SH ++ dy, g3, r) [] rfl trivial rfl rfl (fun q => False.elim (q rfl)) (fun _ => ?_)
        refine mm_B ok_Re_both 21 1 (41, [some (.ref 31), some (.int (nI o)), some (.int (nI j))], [.int 0], (hp_SH ++ dy, g3, r)) [] rfl trivial ?_
        exact mm_rz rfl (mm_at ok_Re_both (i := 22) rfl).1 ⟨Nat.le_refl _, Nat.le_refl _⟩ (Or.inl rfl) (hQ _ _ ⟨rfl, g3, rfl, (hF2.mono f4_f3).tr hF3, h32⟩)
      · refine mm_cV (as := [.int (nI o)]) (st := []) (q := 31) cw_Re_denied lk_Re_60 in_Re_denied sl_Re_denied rfl rfl (mm_at ok_Re_both (i := 19) rfl).1 (IH f (by omega) 2 o (nx_ B n q1) (.inl (q2, c2)) g2 cacc (by decide) ho hx2 h4 hP2 hS2 (by omega)) (by unfold dp_; omega) ⟨by omega, by omega⟩ (Nat.le_of_ble_eq_true rfl) (mm_vs_b (b := 77) rfl (hp_len dy)) (fun v h' hqq => ?_)
        obtain ⟨rfl, g3, hqe, hF3, hS3⟩ := hqq; rw [hqe]
        refine mm_I ok_Re_both 20 0 37 [some (.ref 31), some (.int (nI o)), some (.int (nI j))] [.int 1] (hp_SH ++ dy, g3, r) [] rfl trivial rfl rfl (fun _ => ?_) (fun q => False.elim (absurd q (by decide)))
        refine mm_B ok_Re_both 23 2 (45, [some (.ref 31), some (.int (nI o)), some (.int (nI j))], [.int (-8), .ref 31], (hp_SH ++ dy, g3, r)) [] rfl trivial ?_
        have hl2 := ps_len f _ _ _ _ _ hx2 h4
        have hl3 : (cacc ++ c2).length = cacc.length + c2.length := List.length_append
        refine mm_cV (as := [.int (-8)]) (st := []) (q := 31) cw_Re_write lk_Re_56 in_Re_write sl_Re_write rfl rfl (mm_at ok_Re_both (i := 25) rfl).1 (ct_Re_write dy g3 r hS3 (show (cacc ++ c2).length < 160 by omega) (-8)) (by unfold dp_; omega) ⟨by omega, by omega⟩ (Nat.le_of_ble_eq_true rfl) (mm_vs_b (b := 77) rfl (hp_len dy)) (fun v h' hqq => ?_)
        obtain ⟨rfl, g4, hqe, hF4, hS4⟩ := hqq; rw [hqe]
        refine mm_B ok_Re_both 26 2 (12, [some (.ref 31), some (.int (nI o)), some (.int ((nI j) + 1))], [], (hp_SH ++ dy, g4, r)) [] rfl trivial ?_
        rw [nI_1]
        have hF14 := ((hF2.mono f4_f3).tr hF3).tr hF4
        have hP4 := hF14.nr f4_nr hP1
        have hl4 : (cacc ++ c2 ++ [-8]).length = cacc.length + c2.length + 1 := by rw [List.length_append, hl3]; rfl
        have hl5 := hl2.2 (by decide)
        rcases pb_inv h5 with ⟨e, h6, rfl⟩ | ⟨q3, c3, h6, h7⟩
        · exact ih (by omega) o q2 (j + 1) (.inr e) g4 (cacc ++ c2 ++ [-8]) Q ho hl2.1.2 (by omega) h6 hP4 hS4 (by omega) (fun v h' hr => hQ v h' (rq_te hF14 hr))
        · cases h7
          exact ih (by omega) o q2 (j + 1) (.inl (q3, c3)) g4 (cacc ++ c2 ++ [-8]) Q ho hl2.1.2 (by omega) h6 hP4 hS4 (by omega) (fun v h' hr => hQ v h' (rq_tr hF14 (by rw [← List.append_assoc]; exact hr)))
    · have hend : Q (some (.int 1)) (hp_SH ++ dy, g1, r) := hQ _ _ ⟨rfl, g1, rfl, fr_.rf, by rw [List.append_nil]; exact hS⟩
      refine mm_B ok_Re_both 8 2 (16, [some (.ref 31), some (.int (nI o)), some (.int (nI j))], [.int 160, .int (nI j)], (hp_SH ++ dy, g1, r)) [] rfl trivial ?_
      refine mm_I ok_Re_both 10 0 16 [some (.ref 31), some (.int (nI o)), some (.int (nI j))] [.int 160, .int (nI j)] (hp_SH ++ dy, g1, r) [] rfl trivial rfl rfl (fun q1 => ?_) (fun q1 => ?_)
      · refine mm_B ok_Re_both 28 1 (55, [some (.ref 31), some (.int (nI o)), some (.int (nI j))], [.int 1], (hp_SH ++ dy, g1, r)) [] rfl trivial ?_
        exact mm_rz rfl (mm_at ok_Re_both (i := 29) rfl).1 ⟨Nat.le_refl _, Nat.le_refl _⟩ (Or.inr rfl) (hend)
      · refine mm_B ok_Re_both 11 3 (25, [some (.ref 31), some (.int (nI o)), some (.int (nI j))], [.int (-8), .int (g1 31 4)], (hp_SH ++ dy, g1, r)) [] rfl trivial ?_
        refine mm_I ok_Re_both 14 0 25 [some (.ref 31), some (.int (nI o)), some (.int (nI j))] [.int (-8), .int (g1 31 4)] (hp_SH ++ dy, g1, r) [] rfl trivial rfl rfl (fun _ => ?_) (fun q => False.elim (h1 (htk ▸ q)))
        refine mm_B ok_Re_both 28 1 (55, [some (.ref 31), some (.int (nI o)), some (.int (nI j))], [.int 1], (hp_SH ++ dy, g1, r)) [] rfl trivial ?_
        exact mm_rz rfl (mm_at ok_Re_both (i := 29) rfl).1 ⟨Nat.le_refl _, Nat.le_refl _⟩ (Or.inr rfl) (hend)
theorem rs_c_both (dy : List mm_Sh) (P : Nat → Nat → Int32) (r : (Nat → Nat → Int64) × Nat × (Nat → Int32)) {B : Nat → Int32} {n : Nat} (hN : P 31 1 = nI n) (hn : n ≤ 160) (hB : ∀ j, j < n → P 32 j = B j) {f : Nat} (IH : ∀ f', f' < f + 1 → rs_P dy P r B n f') {o q : Nat} {res : (Nat × List Int32) ⊕ Nat} {g : Nat → Nat → Int32} {cd : List Int32} (ho : o ≤ 5) (hq : q ≤ n) (hps : ps_ B n (f + 1) 1 o q = some res) (hP : nr_ g = P) (hS : rs_S B n g q cd) (hlen : cd.length + 5 ≤ q) : mm_Ct (dp_ 1 o) M_Re_both [.ref 31, .int (nI o)] (hp_SH ++ dy, g, r) 0 0 (rs_Q dy r B n g cd res) := by
  refine mm_start pl_Re (Nat.le_of_ble_eq_true rfl) ?_
  refine mm_B ok_Re_both 0 2 (2, [some (.ref 31), some (.int (nI o)), none], [.int (nI o), .ref 31], (hp_SH ++ dy, g, r)) [] rfl trivial ?_
  rcases ps_c (by decide) hps with ⟨e, h4, rfl⟩ | ⟨q1, c1, h4, h5⟩
  · refine mm_cV (as := [.int (nI o)]) (st := []) (q := 31) cw_Re_denied lk_Re_60 in_Re_denied sl_Re_denied rfl rfl (mm_at ok_Re_both (i := 2) rfl).1 (IH f (by omega) 2 o q (.inr e) g cd (by decide) ho hq h4 hP hS hlen) (by unfold dp_; omega) ⟨by omega, by omega⟩ (Nat.le_of_ble_eq_true rfl) (mm_vs_b (b := 77) rfl (hp_len dy)) (fun v h' hqq => ?_)
    obtain ⟨rfl, g3, hqe, hF3, h32⟩ := hqq; rw [hqe]
    refine mm_I ok_Re_both 3 0 5 [some (.ref 31), some (.int (nI o)), none] [.int 0] (hp_SH ++ dy, g3, r) [] rfl trivial rfl rfl (fun q => False.elim (q rfl)) (fun _ => ?_)
    refine mm_B ok_Re_both 4 1 (9, [some (.ref 31), some (.int (nI o)), none], [.int 0], (hp_SH ++ dy, g3, r)) [] rfl trivial ?_
    exact mm_rz rfl (mm_at ok_Re_both (i := 5) rfl).1 ⟨Nat.le_refl _, Nat.le_refl _⟩ (Or.inl rfl) (⟨rfl, g3, rfl, hF3, h32⟩)
  · refine mm_cV (as := [.int (nI o)]) (st := []) (q := 31) cw_Re_denied lk_Re_60 in_Re_denied sl_Re_denied rfl rfl (mm_at ok_Re_both (i := 2) rfl).1 (IH f (by omega) 2 o q (.inl (q1, c1)) g cd (by decide) ho hq h4 hP hS hlen) (by unfold dp_; omega) ⟨by omega, by omega⟩ (Nat.le_of_ble_eq_true rfl) (mm_vs_b (b := 77) rfl (hp_len dy)) (fun v h' hqq => ?_)
    obtain ⟨rfl, g3, hqe, hF3, hS3⟩ := hqq; rw [hqe]
    refine mm_I ok_Re_both 3 0 5 [some (.ref 31), some (.int (nI o)), none] [.int 1] (hp_SH ++ dy, g3, r) [] rfl trivial rfl rfl (fun _ => ?_) (fun q => False.elim (absurd q (by decide)))
    refine mm_B ok_Re_both 6 2 (12, [some (.ref 31), some (.int (nI o)), some (.int 0)], [], (hp_SH ++ dy, g3, r)) [] rfl trivial ?_
    have hl2 := ps_len f _ _ _ _ _ hq h4
    have hl3 : (cd ++ c1).length = cd.length + c1.length := List.length_append
    have hP3 := hF3.nr f4_nr hP
    rcases pb_inv h5 with ⟨e, h6, rfl⟩ | ⟨q3, c3, h6, h7⟩
    · exact rs_lp_both dy P r hN hn hB IH f (by omega) o q1 0 (.inr e) g3 (cd ++ c1) _ ho hl2.1.2 (by omega) h6 hP3 hS3 (by omega) (fun v h' hr => rq_te hF3 hr)
    · cases h7
      exact rs_lp_both dy P r hN hn hB IH f (by omega) o q1 0 (.inl (q3, c3)) g3 (cd ++ c1) _ ho hl2.1.2 (by omega) h6 hP3 hS3 (by omega) (fun v h' hr => rq_tr hF3 hr)
theorem rs_lp_sum (dy : List mm_Sh) (P : Nat → Nat → Int32) (r : (Nat → Nat → Int64) × Nat × (Nat → Int32)) {B : Nat → Int32} {n : Nat} (hN : P 31 1 = nI n) (hn : n ≤ 160) (hB : ∀ j, j < n → P 32 j = B j) {F : Nat} (IH : ∀ f, f < F → rs_P dy P r B n f) : ∀ (f : Nat), f ≤ F → ∀ (o q1 j : Nat) (res2 : (Nat × List Int32) ⊕ Nat) (g1 : Nat → Nat → Int32) (cacc : List Int32) (Q : Option Value → mm_Hp → Prop), o ≤ 5 → q1 ≤ n → j ≤ q1 → ps_ B n f (4 + 10) o q1 = some res2 → nr_ g1 = P → rs_S B n g1 q1 cacc → cacc.length + 5 ≤ q1 → (∀ v h', rs_Q dy r B n g1 cacc res2 v h' → Q v h') → mm_W (dp_ 4 o) M_Re_sum 0 0 Q 0 0 (12, [some (.ref 31), some (.int (nI o)), some (.int (nI j)), none], [], (hp_SH ++ dy, g1, r)) := by
  intro f
  induction f with
  | zero => intro _ o q1 j res2 g1 cacc Q _ _ _ h; cases h
  | succ f ih =>
    intro hfF o q1 j res2 g1 cacc Q ho hq1 hj hps hP1 hS hlen hQ
    have htk := hS.2.2.1
    rcases ps_l hps with ⟨h1, h2⟩ | ⟨h1, rfl⟩
    · rcases h1 with h1 | h1
      · skip
        have h1e : tk_ B n q1 = -12 := h1
        rw [h1e] at htk h2
        have hx := nx_lt B (n := n) (q := q1) (by rw [h1e]; decide)
        have hx2 := nx_ub B hq1
        refine mm_B ok_Re_sum 8 2 (16, [some (.ref 31), some (.int (nI o)), some (.int (nI j)), none], [.int 160, .int (nI j)], (hp_SH ++ dy, g1, r)) [] rfl trivial ?_
        refine mm_I ok_Re_sum 10 0 16 [some (.ref 31), some (.int (nI o)), some (.int (nI j)), none] [.int 160, .int (nI j)] (hp_SH ++ dy, g1, r) [] rfl trivial rfl rfl (fun q => False.elim (absurd q (nI_ge (b := 160) (show j < 160 by omega) (by decide)))) (fun _ => ?_)
        refine mm_B ok_Re_sum 11 3 (25, [some (.ref 31), some (.int (nI o)), some (.int (nI j)), none], [.int (-12), .int (g1 31 4)], (hp_SH ++ dy, g1, r)) [] rfl trivial ?_
        rw [htk]
        refine mm_I ok_Re_sum 14 0 25 [some (.ref 31), some (.int (nI o)), some (.int (nI j)), none] [.int (-12), .int (-12)] (hp_SH ++ dy, g1, r) [] rfl trivial rfl rfl (fun _ => ?_) (fun q => False.elim (q rfl))
        refine mm_B ok_Re_sum 19 4 (43, [some (.ref 31), some (.int (nI o)), some (.int (nI j)), some (.int (g1 31 4))], [.ref 31], (hp_SH ++ dy, g1, r)) [] rfl trivial ?_
        rw [htk]
        refine mm_cV (as := []) (st := []) (q := 31) cw_Re_advance lk_Re_22 in_Re_advance sl_Re_advance rfl rfl (mm_at ok_Re_sum (i := 23) rfl).1 (ct_Re_advance dy g1 P r hP1 hN hn hB hx2 hS.2.1) (by unfold dp_; omega) ⟨by omega, by omega⟩ (Nat.le_of_ble_eq_true rfl) (mm_vs_b (b := 77) rfl (hp_len dy)) (fun v h' hqq => ?_)
        obtain ⟨rfl, g2, hqe, hF2, a2, a3, a4⟩ := hqq; rw [hqe]
        have hP2 := hF2.nr f3_nr hP1
        have hS2 := rs_adv hS hF2 a2 a3 a4
        refine mm_B ok_Re_sum 24 2 (48, [some (.ref 31), some (.int (nI o)), some (.int (nI j)), some (.int (-12))], [.int (nI o), .ref 31], (hp_SH ++ dy, g2, r)) [] rfl trivial ?_
        rcases pb_inv h2 with ⟨e, h4, rfl⟩ | ⟨q2, c2, h4, h5⟩
        · refine mm_cV (as := [.int (nI o)]) (st := []) (q := 31) cw_Re_term lk_Re_69 in_Re_term sl_Re_term rfl rfl (mm_at ok_Re_sum (i := 26) rfl).1 (IH f (by omega) 5 o (nx_ B n q1) (.inr e) g2 cacc (by decide) ho hx2 h4 hP2 hS2 (by omega)) (by unfold dp_; omega) ⟨by omega, by omega⟩ (Nat.le_of_ble_eq_true rfl) (mm_vs_b (b := 77) rfl (hp_len dy)) (fun v h' hqq => ?_)
          obtain ⟨rfl, g3, hqe, hF3, h32⟩ := hqq; rw [hqe]
          refine mm_I ok_Re_sum 27 0 51 [some (.ref 31), some (.int (nI o)), some (.int (nI j)), some (.int (-12))] [.int 0] (hp_SH ++ dy, g3, r) [] rfl trivial rfl rfl (fun q => False.elim (q rfl)) (fun _ => ?_)
          refine mm_B ok_Re_sum 28 1 (55, [some (.ref 31), some (.int (nI o)), some (.int (nI j)), some (.int (-12))], [.int 0], (hp_SH ++ dy, g3, r)) [] rfl trivial ?_
          exact mm_rz rfl (mm_at ok_Re_sum (i := 29) rfl).1 ⟨Nat.le_refl _, Nat.le_refl _⟩ (Or.inl rfl) (hQ _ _ ⟨rfl, g3, rfl, (hF2.mono f4_f3).tr hF3, h32⟩)
        · refine mm_cV (as := [.int (nI o)]) (st := []) (q := 31) cw_Re_term lk_Re_69 in_Re_term sl_Re_term rfl rfl (mm_at ok_Re_sum (i := 26) rfl).1 (IH f (by omega) 5 o (nx_ B n q1) (.inl (q2, c2)) g2 cacc (by decide) ho hx2 h4 hP2 hS2 (by omega)) (by unfold dp_; omega) ⟨by omega, by omega⟩ (Nat.le_of_ble_eq_true rfl) (mm_vs_b (b := 77) rfl (hp_len dy)) (fun v h' hqq => ?_)
          obtain ⟨rfl, g3, hqe, hF3, hS3⟩ := hqq; rw [hqe]
          refine mm_I ok_Re_sum 27 0 51 [some (.ref 31), some (.int (nI o)), some (.int (nI j)), some (.int (-12))] [.int 1] (hp_SH ++ dy, g3, r) [] rfl trivial rfl rfl (fun _ => ?_) (fun q => False.elim (absurd q (by decide)))
          refine mm_B ok_Re_sum 30 2 (58, [some (.ref 31), some (.int (nI o)), some (.int (nI j)), some (.int (-12))], [.int (-12), .ref 31], (hp_SH ++ dy, g3, r)) [] rfl trivial ?_
          have hl2 := ps_len f _ _ _ _ _ hx2 h4
          have hl3 : (cacc ++ c2).length = cacc.length + c2.length := List.length_append
          refine mm_cV (as := [.int (-12)]) (st := []) (q := 31) cw_Re_write lk_Re_56 in_Re_write sl_Re_write rfl rfl (mm_at ok_Re_sum (i := 32) rfl).1 (ct_Re_write dy g3 r hS3 (show (cacc ++ c2).length < 160 by omega) (-12)) (by unfold dp_; omega) ⟨by omega, by omega⟩ (Nat.le_of_ble_eq_true rfl) (mm_vs_b (b := 77) rfl (hp_len dy)) (fun v h' hqq => ?_)
          obtain ⟨rfl, g4, hqe, hF4, hS4⟩ := hqq; rw [hqe]
          refine mm_B ok_Re_sum 33 2 (12, [some (.ref 31), some (.int (nI o)), some (.int ((nI j) + 1)), some (.int (-12))], [], (hp_SH ++ dy, g4, r)) [] rfl trivial ?_
          rw [nI_1]
          refine mm_fg [3] ?_
          have hF14 := ((hF2.mono f4_f3).tr hF3).tr hF4
          have hP4 := hF14.nr f4_nr hP1
          have hl4 : (cacc ++ c2 ++ [-12]).length = cacc.length + c2.length + 1 := by rw [List.length_append, hl3]; rfl
          have hl5 := hl2.2 (by decide)
          rcases pb_inv h5 with ⟨e, h6, rfl⟩ | ⟨q3, c3, h6, h7⟩
          · exact ih (by omega) o q2 (j + 1) (.inr e) g4 (cacc ++ c2 ++ [-12]) Q ho hl2.1.2 (by omega) h6 hP4 hS4 (by omega) (fun v h' hr => hQ v h' (rq_te hF14 hr))
          · cases h7
            exact ih (by omega) o q2 (j + 1) (.inl (q3, c3)) g4 (cacc ++ c2 ++ [-12]) Q ho hl2.1.2 (by omega) h6 hP4 hS4 (by omega) (fun v h' hr => hQ v h' (rq_tr hF14 (by rw [← List.append_assoc]; exact hr)))
      · skip
        have h1e : tk_ B n q1 = -13 := h1
        rw [h1e] at htk h2
        have hx := nx_lt B (n := n) (q := q1) (by rw [h1e]; decide)
        have hx2 := nx_ub B hq1
        refine mm_B ok_Re_sum 8 2 (16, [some (.ref 31), some (.int (nI o)), some (.int (nI j)), none], [.int 160, .int (nI j)], (hp_SH ++ dy, g1, r)) [] rfl trivial ?_
        refine mm_I ok_Re_sum 10 0 16 [some (.ref 31), some (.int (nI o)), some (.int (nI j)), none] [.int 160, .int (nI j)] (hp_SH ++ dy, g1, r) [] rfl trivial rfl rfl (fun q => False.elim (absurd q (nI_ge (b := 160) (show j < 160 by omega) (by decide)))) (fun _ => ?_)
        refine mm_B ok_Re_sum 11 3 (25, [some (.ref 31), some (.int (nI o)), some (.int (nI j)), none], [.int (-12), .int (g1 31 4)], (hp_SH ++ dy, g1, r)) [] rfl trivial ?_
        rw [htk]
        refine mm_I ok_Re_sum 14 0 25 [some (.ref 31), some (.int (nI o)), some (.int (nI j)), none] [.int (-12), .int (-13)] (hp_SH ++ dy, g1, r) [] rfl trivial rfl rfl (fun q => False.elim (absurd q (by decide))) (fun _ => ?_)
        refine mm_B ok_Re_sum 15 3 (34, [some (.ref 31), some (.int (nI o)), some (.int (nI j)), none], [.int (-13), .int (g1 31 4)], (hp_SH ++ dy, g1, r)) [] rfl trivial ?_
        rw [htk]
        refine mm_I ok_Re_sum 18 0 34 [some (.ref 31), some (.int (nI o)), some (.int (nI j)), none] [.int (-13), .int (-13)] (hp_SH ++ dy, g1, r) [] rfl trivial rfl rfl (fun q => False.elim (q rfl)) (fun _ => ?_)
        refine mm_B ok_Re_sum 19 4 (43, [some (.ref 31), some (.int (nI o)), some (.int (nI j)), some (.int (g1 31 4))], [.ref 31], (hp_SH ++ dy, g1, r)) [] rfl trivial ?_
        rw [htk]
        refine mm_cV (as := []) (st := []) (q := 31) cw_Re_advance lk_Re_22 in_Re_advance sl_Re_advance rfl rfl (mm_at ok_Re_sum (i := 23) rfl).1 (ct_Re_advance dy g1 P r hP1 hN hn hB hx2 hS.2.1) (by unfold dp_; omega) ⟨by omega, by omega⟩ (Nat.le_of_ble_eq_true rfl) (mm_vs_b (b := 77) rfl (hp_len dy)) (fun v h' hqq => ?_)
        obtain ⟨rfl, g2, hqe, hF2, a2, a3, a4⟩ := hqq; rw [hqe]
        have hP2 := hF2.nr f3_nr hP1
        have hS2 := rs_adv hS hF2 a2 a3 a4
        refine mm_B ok_Re_sum 24 2 (48, [some (.ref 31), some (.int (nI o)), some (.int (nI j)), some (.int (-13))], [.int (nI o), .ref 31], (hp_SH ++ dy, g2, r)) [] rfl trivial ?_
        rcases pb_inv h2 with ⟨e, h4, rfl⟩ | ⟨q2, c2, h4, h5⟩
        · refine mm_cV (as := [.int (nI o)]) (st := []) (q := 31) cw_Re_term lk_Re_69 in_Re_term sl_Re_term rfl rfl (mm_at ok_Re_sum (i := 26) rfl).1 (IH f (by omega) 5 o (nx_ B n q1) (.inr e) g2 cacc (by decide) ho hx2 h4 hP2 hS2 (by omega)) (by unfold dp_; omega) ⟨by omega, by omega⟩ (Nat.le_of_ble_eq_true rfl) (mm_vs_b (b := 77) rfl (hp_len dy)) (fun v h' hqq => ?_)
          obtain ⟨rfl, g3, hqe, hF3, h32⟩ := hqq; rw [hqe]
          refine mm_I ok_Re_sum 27 0 51 [some (.ref 31), some (.int (nI o)), some (.int (nI j)), some (.int (-13))] [.int 0] (hp_SH ++ dy, g3, r) [] rfl trivial rfl rfl (fun q => False.elim (q rfl)) (fun _ => ?_)
          refine mm_B ok_Re_sum 28 1 (55, [some (.ref 31), some (.int (nI o)), some (.int (nI j)), some (.int (-13))], [.int 0], (hp_SH ++ dy, g3, r)) [] rfl trivial ?_
          exact mm_rz rfl (mm_at ok_Re_sum (i := 29) rfl).1 ⟨Nat.le_refl _, Nat.le_refl _⟩ (Or.inl rfl) (hQ _ _ ⟨rfl, g3, rfl, (hF2.mono f4_f3).tr hF3, h32⟩)
        · refine mm_cV (as := [.int (nI o)]) (st := []) (q := 31) cw_Re_term lk_Re_69 in_Re_term sl_Re_term rfl rfl (mm_at ok_Re_sum (i := 26) rfl).1 (IH f (by omega) 5 o (nx_ B n q1) (.inl (q2, c2)) g2 cacc (by decide) ho hx2 h4 hP2 hS2 (by omega)) (by unfold dp_; omega) ⟨by omega, by omega⟩ (Nat.le_of_ble_eq_true rfl) (mm_vs_b (b := 77) rfl (hp_len dy)) (fun v h' hqq => ?_)
          obtain ⟨rfl, g3, hqe, hF3, hS3⟩ := hqq; rw [hqe]
          refine mm_I ok_Re_sum 27 0 51 [some (.ref 31), some (.int (nI o)), some (.int (nI j)), some (.int (-13))] [.int 1] (hp_SH ++ dy, g3, r) [] rfl trivial rfl rfl (fun _ => ?_) (fun q => False.elim (absurd q (by decide)))
          refine mm_B ok_Re_sum 30 2 (58, [some (.ref 31), some (.int (nI o)), some (.int (nI j)), some (.int (-13))], [.int (-13), .ref 31], (hp_SH ++ dy, g3, r)) [] rfl trivial ?_
          have hl2 := ps_len f _ _ _ _ _ hx2 h4
          have hl3 : (cacc ++ c2).length = cacc.length + c2.length := List.length_append
          refine mm_cV (as := [.int (-13)]) (st := []) (q := 31) cw_Re_write lk_Re_56 in_Re_write sl_Re_write rfl rfl (mm_at ok_Re_sum (i := 32) rfl).1 (ct_Re_write dy g3 r hS3 (show (cacc ++ c2).length < 160 by omega) (-13)) (by unfold dp_; omega) ⟨by omega, by omega⟩ (Nat.le_of_ble_eq_true rfl) (mm_vs_b (b := 77) rfl (hp_len dy)) (fun v h' hqq => ?_)
          obtain ⟨rfl, g4, hqe, hF4, hS4⟩ := hqq; rw [hqe]
          refine mm_B ok_Re_sum 33 2 (12, [some (.ref 31), some (.int (nI o)), some (.int ((nI j) + 1)), some (.int (-13))], [], (hp_SH ++ dy, g4, r)) [] rfl trivial ?_
          rw [nI_1]
          refine mm_fg [3] ?_
          have hF14 := ((hF2.mono f4_f3).tr hF3).tr hF4
          have hP4 := hF14.nr f4_nr hP1
          have hl4 : (cacc ++ c2 ++ [-13]).length = cacc.length + c2.length + 1 := by rw [List.length_append, hl3]; rfl
          have hl5 := hl2.2 (by decide)
          rcases pb_inv h5 with ⟨e, h6, rfl⟩ | ⟨q3, c3, h6, h7⟩
          · exact ih (by omega) o q2 (j + 1) (.inr e) g4 (cacc ++ c2 ++ [-13]) Q ho hl2.1.2 (by omega) h6 hP4 hS4 (by omega) (fun v h' hr => hQ v h' (rq_te hF14 hr))
          · cases h7
            exact ih (by omega) o q2 (j + 1) (.inl (q3, c3)) g4 (cacc ++ c2 ++ [-13]) Q ho hl2.1.2 (by omega) h6 hP4 hS4 (by omega) (fun v h' hr => hQ v h' (rq_tr hF14 (by rw [← List.append_assoc]; exact hr)))
    · have hend : Q (some (.int 1)) (hp_SH ++ dy, g1, r) := hQ _ _ ⟨rfl, g1, rfl, fr_.rf, by rw [List.append_nil]; exact hS⟩
      refine mm_B ok_Re_sum 8 2 (16, [some (.ref 31), some (.int (nI o)), some (.int (nI j)), none], [.int 160, .int (nI j)], (hp_SH ++ dy, g1, r)) [] rfl trivial ?_
      refine mm_I ok_Re_sum 10 0 16 [some (.ref 31), some (.int (nI o)), some (.int (nI j)), none] [.int 160, .int (nI j)] (hp_SH ++ dy, g1, r) [] rfl trivial rfl rfl (fun q1 => ?_) (fun q1 => ?_)
      · refine mm_B ok_Re_sum 35 1 (68, [some (.ref 31), some (.int (nI o)), some (.int (nI j)), none], [.int 1], (hp_SH ++ dy, g1, r)) [] rfl trivial ?_
        exact mm_rz rfl (mm_at ok_Re_sum (i := 36) rfl).1 ⟨Nat.le_refl _, Nat.le_refl _⟩ (Or.inr rfl) (hend)
      · refine mm_B ok_Re_sum 11 3 (25, [some (.ref 31), some (.int (nI o)), some (.int (nI j)), none], [.int (-12), .int (g1 31 4)], (hp_SH ++ dy, g1, r)) [] rfl trivial ?_
        refine mm_I ok_Re_sum 14 0 25 [some (.ref 31), some (.int (nI o)), some (.int (nI j)), none] [.int (-12), .int (g1 31 4)] (hp_SH ++ dy, g1, r) [] rfl trivial rfl rfl (fun q => False.elim (h1 (Or.inl (htk ▸ q)))) (fun _ => ?_)
        refine mm_B ok_Re_sum 15 3 (34, [some (.ref 31), some (.int (nI o)), some (.int (nI j)), none], [.int (-13), .int (g1 31 4)], (hp_SH ++ dy, g1, r)) [] rfl trivial ?_
        refine mm_I ok_Re_sum 18 0 34 [some (.ref 31), some (.int (nI o)), some (.int (nI j)), none] [.int (-13), .int (g1 31 4)] (hp_SH ++ dy, g1, r) [] rfl trivial rfl rfl (fun _ => ?_) (fun q => False.elim (h1 (Or.inr (htk ▸ q))))
        refine mm_B ok_Re_sum 35 1 (68, [some (.ref 31), some (.int (nI o)), some (.int (nI j)), none], [.int 1], (hp_SH ++ dy, g1, r)) [] rfl trivial ?_
        exact mm_rz rfl (mm_at ok_Re_sum (i := 36) rfl).1 ⟨Nat.le_refl _, Nat.le_refl _⟩ (Or.inr rfl) (hend)
theorem rs_c_sum (dy : List mm_Sh) (P : Nat → Nat → Int32) (r : (Nat → Nat → Int64) × Nat × (Nat → Int32)) {B : Nat → Int32} {n : Nat} (hN : P 31 1 = nI n) (hn : n ≤ 160) (hB : ∀ j, j < n → P 32 j = B j) {f : Nat} (IH : ∀ f', f' < f + 1 → rs_P dy P r B n f') {o q : Nat} {res : (Nat × List Int32) ⊕ Nat} {g : Nat → Nat → Int32} {cd : List Int32} (ho : o ≤ 5) (hq : q ≤ n) (hps : ps_ B n (f + 1) 4 o q = some res) (hP : nr_ g = P) (hS : rs_S B n g q cd) (hlen : cd.length + 5 ≤ q) : mm_Ct (dp_ 4 o) M_Re_sum [.ref 31, .int (nI o)] (hp_SH ++ dy, g, r) 0 0 (rs_Q dy r B n g cd res) := by
  refine mm_start pl_Re (Nat.le_of_ble_eq_true rfl) ?_
  refine mm_B ok_Re_sum 0 2 (2, [some (.ref 31), some (.int (nI o)), none, none], [.int (nI o), .ref 31], (hp_SH ++ dy, g, r)) [] rfl trivial ?_
  rcases ps_c (by decide) hps with ⟨e, h4, rfl⟩ | ⟨q1, c1, h4, h5⟩
  · refine mm_cV (as := [.int (nI o)]) (st := []) (q := 31) cw_Re_term lk_Re_69 in_Re_term sl_Re_term rfl rfl (mm_at ok_Re_sum (i := 2) rfl).1 (IH f (by omega) 5 o q (.inr e) g cd (by decide) ho hq h4 hP hS hlen) (by unfold dp_; omega) ⟨by omega, by omega⟩ (Nat.le_of_ble_eq_true rfl) (mm_vs_b (b := 77) rfl (hp_len dy)) (fun v h' hqq => ?_)
    obtain ⟨rfl, g3, hqe, hF3, h32⟩ := hqq; rw [hqe]
    refine mm_I ok_Re_sum 3 0 5 [some (.ref 31), some (.int (nI o)), none, none] [.int 0] (hp_SH ++ dy, g3, r) [] rfl trivial rfl rfl (fun q => False.elim (q rfl)) (fun _ => ?_)
    refine mm_B ok_Re_sum 4 1 (9, [some (.ref 31), some (.int (nI o)), none, none], [.int 0], (hp_SH ++ dy, g3, r)) [] rfl trivial ?_
    exact mm_rz rfl (mm_at ok_Re_sum (i := 5) rfl).1 ⟨Nat.le_refl _, Nat.le_refl _⟩ (Or.inl rfl) (⟨rfl, g3, rfl, hF3, h32⟩)
  · refine mm_cV (as := [.int (nI o)]) (st := []) (q := 31) cw_Re_term lk_Re_69 in_Re_term sl_Re_term rfl rfl (mm_at ok_Re_sum (i := 2) rfl).1 (IH f (by omega) 5 o q (.inl (q1, c1)) g cd (by decide) ho hq h4 hP hS hlen) (by unfold dp_; omega) ⟨by omega, by omega⟩ (Nat.le_of_ble_eq_true rfl) (mm_vs_b (b := 77) rfl (hp_len dy)) (fun v h' hqq => ?_)
    obtain ⟨rfl, g3, hqe, hF3, hS3⟩ := hqq; rw [hqe]
    refine mm_I ok_Re_sum 3 0 5 [some (.ref 31), some (.int (nI o)), none, none] [.int 1] (hp_SH ++ dy, g3, r) [] rfl trivial rfl rfl (fun _ => ?_) (fun q => False.elim (absurd q (by decide)))
    refine mm_B ok_Re_sum 6 2 (12, [some (.ref 31), some (.int (nI o)), some (.int 0), none], [], (hp_SH ++ dy, g3, r)) [] rfl trivial ?_
    have hl2 := ps_len f _ _ _ _ _ hq h4
    have hl3 : (cd ++ c1).length = cd.length + c1.length := List.length_append
    have hP3 := hF3.nr f4_nr hP
    rcases pb_inv h5 with ⟨e, h6, rfl⟩ | ⟨q3, c3, h6, h7⟩
    · exact rs_lp_sum dy P r hN hn hB IH f (by omega) o q1 0 (.inr e) g3 (cd ++ c1) _ ho hl2.1.2 (by omega) h6 hP3 hS3 (by omega) (fun v h' hr => rq_te hF3 hr)
    · cases h7
      exact rs_lp_sum dy P r hN hn hB IH f (by omega) o q1 0 (.inl (q3, c3)) g3 (cd ++ c1) _ ho hl2.1.2 (by omega) h6 hP3 hS3 (by omega) (fun v h' hr => rq_tr hF3 hr)
theorem rs_lp_term (dy : List mm_Sh) (P : Nat → Nat → Int32) (r : (Nat → Nat → Int64) × Nat × (Nat → Int32)) {B : Nat → Int32} {n : Nat} (hN : P 31 1 = nI n) (hn : n ≤ 160) (hB : ∀ j, j < n → P 32 j = B j) {F : Nat} (IH : ∀ f, f < F → rs_P dy P r B n f) : ∀ (f : Nat), f ≤ F → ∀ (o q1 j : Nat) (res2 : (Nat × List Int32) ⊕ Nat) (g1 : Nat → Nat → Int32) (cacc : List Int32) (Q : Option Value → mm_Hp → Prop), o ≤ 5 → q1 ≤ n → j ≤ q1 → ps_ B n f (5 + 10) o q1 = some res2 → nr_ g1 = P → rs_S B n g1 q1 cacc → cacc.length + 5 ≤ q1 → (∀ v h', rs_Q dy r B n g1 cacc res2 v h' → Q v h') → mm_W (dp_ 5 o) M_Re_term 0 0 Q 0 0 (12, [some (.ref 31), some (.int (nI o)), some (.int (nI j))], [], (hp_SH ++ dy, g1, r)) := by
  intro f
  induction f with
  | zero => intro _ o q1 j res2 g1 cacc Q _ _ _ h; cases h
  | succ f ih =>
    intro hfF o q1 j res2 g1 cacc Q ho hq1 hj hps hP1 hS hlen hQ
    have htk := hS.2.2.1
    rcases ps_l hps with ⟨h1, h2⟩ | ⟨h1, rfl⟩
    · skip
      have h1e : tk_ B n q1 = -14 := h1
      rw [h1e] at htk h2
      have hx := nx_lt B (n := n) (q := q1) (by rw [h1e]; decide)
      have hx2 := nx_ub B hq1
      refine mm_B ok_Re_term 8 2 (16, [some (.ref 31), some (.int (nI o)), some (.int (nI j))], [.int 160, .int (nI j)], (hp_SH ++ dy, g1, r)) [] rfl trivial ?_
      refine mm_I ok_Re_term 10 0 16 [some (.ref 31), some (.int (nI o)), some (.int (nI j))] [.int 160, .int (nI j)] (hp_SH ++ dy, g1, r) [] rfl trivial rfl rfl (fun q => False.elim (absurd q (nI_ge (b := 160) (show j < 160 by omega) (by decide)))) (fun _ => ?_)
      refine mm_B ok_Re_term 11 3 (25, [some (.ref 31), some (.int (nI o)), some (.int (nI j))], [.int (-14), .int (g1 31 4)], (hp_SH ++ dy, g1, r)) [] rfl trivial ?_
      rw [htk]
      refine mm_I ok_Re_term 14 0 25 [some (.ref 31), some (.int (nI o)), some (.int (nI j))] [.int (-14), .int (-14)] (hp_SH ++ dy, g1, r) [] rfl trivial rfl rfl (fun q => False.elim (q rfl)) (fun _ => ?_)
      refine mm_B ok_Re_term 15 1 (29, [some (.ref 31), some (.int (nI o)), some (.int (nI j))], [.ref 31], (hp_SH ++ dy, g1, r)) [] rfl trivial ?_
      refine mm_cV (as := []) (st := []) (q := 31) cw_Re_advance lk_Re_22 in_Re_advance sl_Re_advance rfl rfl (mm_at ok_Re_term (i := 16) rfl).1 (ct_Re_advance dy g1 P r hP1 hN hn hB hx2 hS.2.1) (by unfold dp_; omega) ⟨by omega, by omega⟩ (Nat.le_of_ble_eq_true rfl) (mm_vs_b (b := 77) rfl (hp_len dy)) (fun v h' hqq => ?_)
      obtain ⟨rfl, g2, hqe, hF2, a2, a3, a4⟩ := hqq; rw [hqe]
      have hP2 := hF2.nr f3_nr hP1
      have hS2 := rs_adv hS hF2 a2 a3 a4
      refine mm_B ok_Re_term 17 2 (34, [some (.ref 31), some (.int (nI o)), some (.int (nI j))], [.int (nI o), .ref 31], (hp_SH ++ dy, g2, r)) [] rfl trivial ?_
      rcases pb_inv h2 with ⟨e, h4, rfl⟩ | ⟨q2, c2, h4, h5⟩
      · refine mm_cV (as := [.int (nI o)]) (st := []) (q := 31) cw_Re_one lk_Re_72 in_Re_one sl_Re_one rfl rfl (mm_at ok_Re_term (i := 19) rfl).1 (IH f (by omega) 6 o (nx_ B n q1) (.inr e) g2 cacc (by decide) ho hx2 h4 hP2 hS2 (by omega)) (by unfold dp_; omega) ⟨by omega, by omega⟩ (Nat.le_of_ble_eq_true rfl) (mm_vs_b (b := 77) rfl (hp_len dy)) (fun v h' hqq => ?_)
        obtain ⟨rfl, g3, hqe, hF3, h32⟩ := hqq; rw [hqe]
        refine mm_I ok_Re_term 20 0 37 [some (.ref 31), some (.int (nI o)), some (.int (nI j))] [.int 0] (hp_SH ++ dy, g3, r) [] rfl trivial rfl rfl (fun q => False.elim (q rfl)) (fun _ => ?_)
        refine mm_B ok_Re_term 21 1 (41, [some (.ref 31), some (.int (nI o)), some (.int (nI j))], [.int 0], (hp_SH ++ dy, g3, r)) [] rfl trivial ?_
        exact mm_rz rfl (mm_at ok_Re_term (i := 22) rfl).1 ⟨Nat.le_refl _, Nat.le_refl _⟩ (Or.inl rfl) (hQ _ _ ⟨rfl, g3, rfl, (hF2.mono f4_f3).tr hF3, h32⟩)
      · refine mm_cV (as := [.int (nI o)]) (st := []) (q := 31) cw_Re_one lk_Re_72 in_Re_one sl_Re_one rfl rfl (mm_at ok_Re_term (i := 19) rfl).1 (IH f (by omega) 6 o (nx_ B n q1) (.inl (q2, c2)) g2 cacc (by decide) ho hx2 h4 hP2 hS2 (by omega)) (by unfold dp_; omega) ⟨by omega, by omega⟩ (Nat.le_of_ble_eq_true rfl) (mm_vs_b (b := 77) rfl (hp_len dy)) (fun v h' hqq => ?_)
        obtain ⟨rfl, g3, hqe, hF3, hS3⟩ := hqq; rw [hqe]
        refine mm_I ok_Re_term 20 0 37 [some (.ref 31), some (.int (nI o)), some (.int (nI j))] [.int 1] (hp_SH ++ dy, g3, r) [] rfl trivial rfl rfl (fun _ => ?_) (fun q => False.elim (absurd q (by decide)))
        refine mm_B ok_Re_term 23 2 (45, [some (.ref 31), some (.int (nI o)), some (.int (nI j))], [.int (-14), .ref 31], (hp_SH ++ dy, g3, r)) [] rfl trivial ?_
        have hl2 := ps_len f _ _ _ _ _ hx2 h4
        have hl3 : (cacc ++ c2).length = cacc.length + c2.length := List.length_append
        refine mm_cV (as := [.int (-14)]) (st := []) (q := 31) cw_Re_write lk_Re_56 in_Re_write sl_Re_write rfl rfl (mm_at ok_Re_term (i := 25) rfl).1 (ct_Re_write dy g3 r hS3 (show (cacc ++ c2).length < 160 by omega) (-14)) (by unfold dp_; omega) ⟨by omega, by omega⟩ (Nat.le_of_ble_eq_true rfl) (mm_vs_b (b := 77) rfl (hp_len dy)) (fun v h' hqq => ?_)
        obtain ⟨rfl, g4, hqe, hF4, hS4⟩ := hqq; rw [hqe]
        refine mm_B ok_Re_term 26 2 (12, [some (.ref 31), some (.int (nI o)), some (.int ((nI j) + 1))], [], (hp_SH ++ dy, g4, r)) [] rfl trivial ?_
        rw [nI_1]
        have hF14 := ((hF2.mono f4_f3).tr hF3).tr hF4
        have hP4 := hF14.nr f4_nr hP1
        have hl4 : (cacc ++ c2 ++ [-14]).length = cacc.length + c2.length + 1 := by rw [List.length_append, hl3]; rfl
        have hl5 := hl2.2 (by decide)
        rcases pb_inv h5 with ⟨e, h6, rfl⟩ | ⟨q3, c3, h6, h7⟩
        · exact ih (by omega) o q2 (j + 1) (.inr e) g4 (cacc ++ c2 ++ [-14]) Q ho hl2.1.2 (by omega) h6 hP4 hS4 (by omega) (fun v h' hr => hQ v h' (rq_te hF14 hr))
        · cases h7
          exact ih (by omega) o q2 (j + 1) (.inl (q3, c3)) g4 (cacc ++ c2 ++ [-14]) Q ho hl2.1.2 (by omega) h6 hP4 hS4 (by omega) (fun v h' hr => hQ v h' (rq_tr hF14 (by rw [← List.append_assoc]; exact hr)))
    · have hend : Q (some (.int 1)) (hp_SH ++ dy, g1, r) := hQ _ _ ⟨rfl, g1, rfl, fr_.rf, by rw [List.append_nil]; exact hS⟩
      refine mm_B ok_Re_term 8 2 (16, [some (.ref 31), some (.int (nI o)), some (.int (nI j))], [.int 160, .int (nI j)], (hp_SH ++ dy, g1, r)) [] rfl trivial ?_
      refine mm_I ok_Re_term 10 0 16 [some (.ref 31), some (.int (nI o)), some (.int (nI j))] [.int 160, .int (nI j)] (hp_SH ++ dy, g1, r) [] rfl trivial rfl rfl (fun q1 => ?_) (fun q1 => ?_)
      · refine mm_B ok_Re_term 28 1 (55, [some (.ref 31), some (.int (nI o)), some (.int (nI j))], [.int 1], (hp_SH ++ dy, g1, r)) [] rfl trivial ?_
        exact mm_rz rfl (mm_at ok_Re_term (i := 29) rfl).1 ⟨Nat.le_refl _, Nat.le_refl _⟩ (Or.inr rfl) (hend)
      · refine mm_B ok_Re_term 11 3 (25, [some (.ref 31), some (.int (nI o)), some (.int (nI j))], [.int (-14), .int (g1 31 4)], (hp_SH ++ dy, g1, r)) [] rfl trivial ?_
        refine mm_I ok_Re_term 14 0 25 [some (.ref 31), some (.int (nI o)), some (.int (nI j))] [.int (-14), .int (g1 31 4)] (hp_SH ++ dy, g1, r) [] rfl trivial rfl rfl (fun _ => ?_) (fun q => False.elim (h1 (htk ▸ q)))
        refine mm_B ok_Re_term 28 1 (55, [some (.ref 31), some (.int (nI o)), some (.int (nI j))], [.int 1], (hp_SH ++ dy, g1, r)) [] rfl trivial ?_
        exact mm_rz rfl (mm_at ok_Re_term (i := 29) rfl).1 ⟨Nat.le_refl _, Nat.le_refl _⟩ (Or.inr rfl) (hend)
theorem rs_c_term (dy : List mm_Sh) (P : Nat → Nat → Int32) (r : (Nat → Nat → Int64) × Nat × (Nat → Int32)) {B : Nat → Int32} {n : Nat} (hN : P 31 1 = nI n) (hn : n ≤ 160) (hB : ∀ j, j < n → P 32 j = B j) {f : Nat} (IH : ∀ f', f' < f + 1 → rs_P dy P r B n f') {o q : Nat} {res : (Nat × List Int32) ⊕ Nat} {g : Nat → Nat → Int32} {cd : List Int32} (ho : o ≤ 5) (hq : q ≤ n) (hps : ps_ B n (f + 1) 5 o q = some res) (hP : nr_ g = P) (hS : rs_S B n g q cd) (hlen : cd.length + 5 ≤ q) : mm_Ct (dp_ 5 o) M_Re_term [.ref 31, .int (nI o)] (hp_SH ++ dy, g, r) 0 0 (rs_Q dy r B n g cd res) := by
  refine mm_start pl_Re (Nat.le_of_ble_eq_true rfl) ?_
  refine mm_B ok_Re_term 0 2 (2, [some (.ref 31), some (.int (nI o)), none], [.int (nI o), .ref 31], (hp_SH ++ dy, g, r)) [] rfl trivial ?_
  rcases ps_c (by decide) hps with ⟨e, h4, rfl⟩ | ⟨q1, c1, h4, h5⟩
  · refine mm_cV (as := [.int (nI o)]) (st := []) (q := 31) cw_Re_one lk_Re_72 in_Re_one sl_Re_one rfl rfl (mm_at ok_Re_term (i := 2) rfl).1 (IH f (by omega) 6 o q (.inr e) g cd (by decide) ho hq h4 hP hS hlen) (by unfold dp_; omega) ⟨by omega, by omega⟩ (Nat.le_of_ble_eq_true rfl) (mm_vs_b (b := 77) rfl (hp_len dy)) (fun v h' hqq => ?_)
    obtain ⟨rfl, g3, hqe, hF3, h32⟩ := hqq; rw [hqe]
    refine mm_I ok_Re_term 3 0 5 [some (.ref 31), some (.int (nI o)), none] [.int 0] (hp_SH ++ dy, g3, r) [] rfl trivial rfl rfl (fun q => False.elim (q rfl)) (fun _ => ?_)
    refine mm_B ok_Re_term 4 1 (9, [some (.ref 31), some (.int (nI o)), none], [.int 0], (hp_SH ++ dy, g3, r)) [] rfl trivial ?_
    exact mm_rz rfl (mm_at ok_Re_term (i := 5) rfl).1 ⟨Nat.le_refl _, Nat.le_refl _⟩ (Or.inl rfl) (⟨rfl, g3, rfl, hF3, h32⟩)
  · refine mm_cV (as := [.int (nI o)]) (st := []) (q := 31) cw_Re_one lk_Re_72 in_Re_one sl_Re_one rfl rfl (mm_at ok_Re_term (i := 2) rfl).1 (IH f (by omega) 6 o q (.inl (q1, c1)) g cd (by decide) ho hq h4 hP hS hlen) (by unfold dp_; omega) ⟨by omega, by omega⟩ (Nat.le_of_ble_eq_true rfl) (mm_vs_b (b := 77) rfl (hp_len dy)) (fun v h' hqq => ?_)
    obtain ⟨rfl, g3, hqe, hF3, hS3⟩ := hqq; rw [hqe]
    refine mm_I ok_Re_term 3 0 5 [some (.ref 31), some (.int (nI o)), none] [.int 1] (hp_SH ++ dy, g3, r) [] rfl trivial rfl rfl (fun _ => ?_) (fun q => False.elim (absurd q (by decide)))
    refine mm_B ok_Re_term 6 2 (12, [some (.ref 31), some (.int (nI o)), some (.int 0)], [], (hp_SH ++ dy, g3, r)) [] rfl trivial ?_
    have hl2 := ps_len f _ _ _ _ _ hq h4
    have hl3 : (cd ++ c1).length = cd.length + c1.length := List.length_append
    have hP3 := hF3.nr f4_nr hP
    rcases pb_inv h5 with ⟨e, h6, rfl⟩ | ⟨q3, c3, h6, h7⟩
    · exact rs_lp_term dy P r hN hn hB IH f (by omega) o q1 0 (.inr e) g3 (cd ++ c1) _ ho hl2.1.2 (by omega) h6 hP3 hS3 (by omega) (fun v h' hr => rq_te hF3 hr)
    · cases h7
      exact rs_lp_term dy P r hN hn hB IH f (by omega) o q1 0 (.inl (q3, c3)) g3 (cd ++ c1) _ ho hl2.1.2 (by omega) h6 hP3 hS3 (by omega) (fun v h' hr => rq_tr hF3 hr)
theorem rs_c_denied (dy : List mm_Sh) (P : Nat → Nat → Int32) (r : (Nat → Nat → Int64) × Nat × (Nat → Int32)) {B : Nat → Int32} {n : Nat} (hN : P 31 1 = nI n) (hn : n ≤ 160) (hB : ∀ j, j < n → P 32 j = B j) {f : Nat} (IH : ∀ f', f' < f + 1 → rs_P dy P r B n f') {o q : Nat} {res : (Nat × List Int32) ⊕ Nat} {g : Nat → Nat → Int32} {cd : List Int32} (ho : o ≤ 5) (hq : q ≤ n) (hps : ps_ B n (f + 1) 2 o q = some res) (hP : nr_ g = P) (hS : rs_S B n g q cd) (hlen : cd.length + 5 ≤ q) : mm_Ct (dp_ 2 o) M_Re_denied [.ref 31, .int (nI o)] (hp_SH ++ dy, g, r) 0 0 (rs_Q dy r B n g cd res) := by
  refine mm_start pl_Re (Nat.le_of_ble_eq_true rfl) ?_
  have htk := hS.2.2.1
  refine mm_B ok_Re_denied 0 3 (6, [some (.ref 31), some (.int (nI o))], [.int (-9), .int (g 31 4)], (hp_SH ++ dy, g, r)) [] rfl trivial ?_
  rcases ps_2 hps with ⟨h1, h2, h3⟩ | ⟨h1, h2, rfl⟩ | ⟨h1, h3⟩
  · rw [h1] at htk
    have hx := nx_lt B (n := n) (q := q) (by rw [h1]; decide)
    have hx2 := nx_ub B hq
    rw [htk]
    refine mm_I ok_Re_denied 3 0 6 [some (.ref 31), some (.int (nI o))] [.int (-9), .int (-9)] (hp_SH ++ dy, g, r) [] rfl trivial rfl rfl (fun _ => ?_) (fun q => False.elim (q rfl))
    refine mm_I ok_Re_denied 8 2 17 [some (.ref 31), some (.int (nI o))] [.int 5, .int (nI o)] (hp_SH ++ dy, g, r) [] rfl trivial rfl rfl (fun _ => ?_) (fun q => False.elim (q (nI_lt (b := 5) h2 (by decide))))
    refine mm_B ok_Re_denied 13 1 (23, [some (.ref 31), some (.int (nI o))], [.ref 31], (hp_SH ++ dy, g, r)) [] rfl trivial ?_
    refine mm_cV (as := []) (st := []) (q := 31) cw_Re_advance lk_Re_22 in_Re_advance sl_Re_advance rfl rfl (mm_at ok_Re_denied (i := 14) rfl).1 (ct_Re_advance dy g P r hP hN hn hB hx2 hS.2.1) (by unfold dp_; omega) ⟨by omega, by omega⟩ (Nat.le_of_ble_eq_true rfl) (mm_vs_b (b := 77) rfl (hp_len dy)) (fun v h' hqq => ?_)
    obtain ⟨rfl, g2, hqe, hF2, a2, a3, a4⟩ := hqq; rw [hqe]
    have hP2 := hF2.nr f3_nr hP
    have hS2 := rs_adv hS hF2 a2 a3 a4
    refine mm_B ok_Re_denied 15 4 (30, [some (.ref 31), some (.int (nI o))], [.int ((nI o) + 1), .ref 31], (hp_SH ++ dy, g2, r)) [] rfl trivial ?_
    rw [nI_1]
    rcases pb_inv h3 with ⟨e, h4, rfl⟩ | ⟨q2, c2, h4, h5⟩
    · refine mm_cV (as := [.int (nI (o + 1))]) (st := []) (q := 31) cw_Re_denied lk_Re_60 in_Re_denied sl_Re_denied rfl rfl (mm_at ok_Re_denied (i := 19) rfl).1 (IH f (by omega) 2 (o + 1) (nx_ B n q) (.inr e) g2 cd (by decide) (by omega) hx2 h4 hP2 hS2 (by omega)) (by unfold dp_; omega) ⟨by omega, by omega⟩ (Nat.le_of_ble_eq_true rfl) (mm_vs_b (b := 77) rfl (hp_len dy)) (fun v h' hqq => ?_)
      obtain ⟨rfl, g3, hqe, hF3, h32⟩ := hqq; rw [hqe]
      refine mm_I ok_Re_denied 20 0 33 [some (.ref 31), some (.int (nI o))] [.int 0] (hp_SH ++ dy, g3, r) [] rfl trivial rfl rfl (fun q => False.elim (q rfl)) (fun _ => ?_)
      refine mm_B ok_Re_denied 21 1 (37, [some (.ref 31), some (.int (nI o))], [.int 0], (hp_SH ++ dy, g3, r)) [] rfl trivial ?_
      exact mm_rz rfl (mm_at ok_Re_denied (i := 22) rfl).1 ⟨Nat.le_refl _, Nat.le_refl _⟩ (Or.inl rfl) (⟨rfl, g3, rfl, (hF2.mono f4_f3).tr hF3, h32⟩)
    · cases h5
      refine mm_cV (as := [.int (nI (o + 1))]) (st := []) (q := 31) cw_Re_denied lk_Re_60 in_Re_denied sl_Re_denied rfl rfl (mm_at ok_Re_denied (i := 19) rfl).1 (IH f (by omega) 2 (o + 1) (nx_ B n q) (.inl (q2, c2)) g2 cd (by decide) (by omega) hx2 h4 hP2 hS2 (by omega)) (by unfold dp_; omega) ⟨by omega, by omega⟩ (Nat.le_of_ble_eq_true rfl) (mm_vs_b (b := 77) rfl (hp_len dy)) (fun v h' hqq => ?_)
      obtain ⟨rfl, g3, hqe, hF3, hS3⟩ := hqq; rw [hqe]
      refine mm_I ok_Re_denied 20 0 33 [some (.ref 31), some (.int (nI o))] [.int 1] (hp_SH ++ dy, g3, r) [] rfl trivial rfl rfl (fun _ => ?_) (fun q => False.elim (absurd q (by decide)))
      refine mm_B ok_Re_denied 23 2 (41, [some (.ref 31), some (.int (nI o))], [.int (-9), .ref 31], (hp_SH ++ dy, g3, r)) [] rfl trivial ?_
      have hl2 := ps_len f _ _ _ _ _ hx2 h4
      have hl3 : (cd ++ c2).length = cd.length + c2.length := List.length_append
      refine mm_cV (as := [.int (-9)]) (st := []) (q := 31) cw_Re_write lk_Re_56 in_Re_write sl_Re_write rfl rfl (mm_at ok_Re_denied (i := 25) rfl).1 (ct_Re_write dy g3 r hS3 (show (cd ++ c2).length < 160 by omega) (-9)) (by unfold dp_; omega) ⟨by omega, by omega⟩ (Nat.le_of_ble_eq_true rfl) (mm_vs_b (b := 77) rfl (hp_len dy)) (fun v h' hqq => ?_)
      obtain ⟨rfl, g4, hqe, hF4, hS4⟩ := hqq; rw [hqe]
      refine mm_B ok_Re_denied 26 1 (45, [some (.ref 31), some (.int (nI o))], [.int 1], (hp_SH ++ dy, g4, r)) [] rfl trivial ?_
      exact mm_rz rfl (mm_at ok_Re_denied (i := 27) rfl).1 ⟨Nat.le_refl _, Nat.le_refl _⟩ (Or.inr rfl) (⟨rfl, g4, rfl, ((hF2.mono f4_f3).tr hF3).tr hF4, by rw [← List.append_assoc]; exact hS4⟩)
  · rw [h1] at htk
    rw [htk]
    refine mm_I ok_Re_denied 3 0 6 [some (.ref 31), some (.int (nI o))] [.int (-9), .int (-9)] (hp_SH ++ dy, g, r) [] rfl trivial rfl rfl (fun _ => ?_) (fun q => False.elim (q rfl))
    refine mm_I ok_Re_denied 8 2 17 [some (.ref 31), some (.int (nI o))] [.int 5, .int (nI o)] (hp_SH ++ dy, g, r) [] rfl trivial rfl rfl (fun q => False.elim (absurd q (nI_nlt (a := o) (b := 5) (by omega) (by omega)))) (fun _ => ?_)
    refine mm_B ok_Re_denied 11 1 (21, [some (.ref 31), some (.int (nI o))], [.int 0], (hp_SH ++ dy, g, r)) [] rfl trivial ?_
    exact mm_rz rfl (mm_at ok_Re_denied (i := 12) rfl).1 ⟨Nat.le_refl _, Nat.le_refl _⟩ (Or.inl rfl) (⟨rfl, g, rfl, fr_.rf, hS.1⟩)
  · refine mm_I ok_Re_denied 3 0 6 [some (.ref 31), some (.int (nI o))] [.int (-9), .int (g 31 4)] (hp_SH ++ dy, g, r) [] rfl trivial rfl rfl (fun q => False.elim (h1 (htk ▸ q))) (fun _ => ?_)
    refine mm_B ok_Re_denied 4 2 (11, [some (.ref 31), some (.int (nI o))], [.int (nI o), .ref 31], (hp_SH ++ dy, g, r)) [] rfl trivial ?_
    cases res with
    | inr e =>
      refine mm_cV (as := [.int (nI o)]) (st := []) (q := 31) cw_Re_compared lk_Re_63 in_Re_compared sl_Re_compared rfl rfl (mm_at ok_Re_denied (i := 6) rfl).1 (IH f (by omega) 3 o q (.inr e) g cd (by decide) ho hq h3 hP hS hlen) (by unfold dp_; omega) ⟨by omega, by omega⟩ (Nat.le_of_ble_eq_true rfl) (mm_vs_b (b := 77) rfl (hp_len dy)) (fun v h' hqq => ?_)
      obtain ⟨rfl, g3, hqe, hF3, h32⟩ := hqq; rw [hqe]
      exact mm_rz rfl (mm_at ok_Re_denied (i := 7) rfl).1 ⟨Nat.le_refl _, Nat.le_refl _⟩ (Or.inl rfl) (⟨rfl, g3, rfl, hF3, h32⟩)
    | inl y =>
      refine mm_cV (as := [.int (nI o)]) (st := []) (q := 31) cw_Re_compared lk_Re_63 in_Re_compared sl_Re_compared rfl rfl (mm_at ok_Re_denied (i := 6) rfl).1 (IH f (by omega) 3 o q (.inl y) g cd (by decide) ho hq h3 hP hS hlen) (by unfold dp_; omega) ⟨by omega, by omega⟩ (Nat.le_of_ble_eq_true rfl) (mm_vs_b (b := 77) rfl (hp_len dy)) (fun v h' hqq => ?_)
      obtain ⟨rfl, g3, hqe, hF3, hS3⟩ := hqq; rw [hqe]
      exact mm_rz rfl (mm_at ok_Re_denied (i := 7) rfl).1 ⟨Nat.le_refl _, Nat.le_refl _⟩ (Or.inr rfl) (⟨rfl, g3, rfl, hF3, hS3⟩)
theorem rs_c_compared (dy : List mm_Sh) (P : Nat → Nat → Int32) (r : (Nat → Nat → Int64) × Nat × (Nat → Int32)) {B : Nat → Int32} {n : Nat} (hN : P 31 1 = nI n) (hn : n ≤ 160) (hB : ∀ j, j < n → P 32 j = B j) {f : Nat} (IH : ∀ f', f' < f + 1 → rs_P dy P r B n f') {o q : Nat} {res : (Nat × List Int32) ⊕ Nat} {g : Nat → Nat → Int32} {cd : List Int32} (ho : o ≤ 5) (hq : q ≤ n) (hps : ps_ B n (f + 1) 3 o q = some res) (hP : nr_ g = P) (hS : rs_S B n g q cd) (hlen : cd.length + 5 ≤ q) : mm_Ct (dp_ 3 o) M_Re_compared [.ref 31, .int (nI o)] (hp_SH ++ dy, g, r) 0 0 (rs_Q dy r B n g cd res) := by
  refine mm_start pl_Re (Nat.le_of_ble_eq_true rfl) ?_
  have htk := hS.2.2.1
  refine mm_B ok_Re_compared 0 2 (2, [some (.ref 31), some (.int (nI o)), none], [.int (nI o), .ref 31], (hp_SH ++ dy, g, r)) [] rfl trivial ?_
  rcases ps_3 hps with ⟨e, h4, rfl⟩ | ⟨q1, c1, h4, h5⟩
  · refine mm_cV (as := [.int (nI o)]) (st := []) (q := 31) cw_Re_sum lk_Re_66 in_Re_sum sl_Re_sum rfl rfl (mm_at ok_Re_compared (i := 2) rfl).1 (IH f (by omega) 4 o q (.inr e) g cd (by decide) ho hq h4 hP hS hlen) (by unfold dp_; omega) ⟨by omega, by omega⟩ (Nat.le_of_ble_eq_true rfl) (mm_vs_b (b := 77) rfl (hp_len dy)) (fun v h' hqq => ?_)
    obtain ⟨rfl, g3, hqe, hF3, h32⟩ := hqq; rw [hqe]
    refine mm_I ok_Re_compared 3 0 5 [some (.ref 31), some (.int (nI o)), none] [.int 0] (hp_SH ++ dy, g3, r) [] rfl trivial rfl rfl (fun q => False.elim (q rfl)) (fun _ => ?_)
    refine mm_B ok_Re_compared 4 1 (9, [some (.ref 31), some (.int (nI o)), none], [.int 0], (hp_SH ++ dy, g3, r)) [] rfl trivial ?_
    exact mm_rz rfl (mm_at ok_Re_compared (i := 5) rfl).1 ⟨Nat.le_refl _, Nat.le_refl _⟩ (Or.inl rfl) (⟨rfl, g3, rfl, hF3, h32⟩)
  · refine mm_cV (as := [.int (nI o)]) (st := []) (q := 31) cw_Re_sum lk_Re_66 in_Re_sum sl_Re_sum rfl rfl (mm_at ok_Re_compared (i := 2) rfl).1 (IH f (by omega) 4 o q (.inl (q1, c1)) g cd (by decide) ho hq h4 hP hS hlen) (by unfold dp_; omega) ⟨by omega, by omega⟩ (Nat.le_of_ble_eq_true rfl) (mm_vs_b (b := 77) rfl (hp_len dy)) (fun v h' hqq => ?_)
    obtain ⟨rfl, g1, hqe, hF1, hS1⟩ := hqq; rw [hqe]
    refine mm_I ok_Re_compared 3 0 5 [some (.ref 31), some (.int (nI o)), none] [.int 1] (hp_SH ++ dy, g1, r) [] rfl trivial rfl rfl (fun _ => ?_) (fun q => False.elim (absurd q (by decide)))
    have hP1 := hF1.nr f4_nr hP
    have hl1 := ps_len f _ _ _ _ _ hq h4
    have hl0 : (cd ++ c1).length = cd.length + c1.length := List.length_append
    have htk := hS1.2.2.1
    refine mm_B ok_Re_compared 6 3 (16, [some (.ref 31), some (.int (nI o)), none], [.int (-10), .int (g1 31 4)], (hp_SH ++ dy, g1, r)) [] rfl trivial ?_
    rcases h5 with ⟨h5, h6⟩ | ⟨h5, rfl⟩
    · have hx := nx_lt B (n := n) (q := q1) (by rcases h5 with h5 | h5 <;> rw [h5] <;> decide)
      have hx2 := nx_ub B hl1.1.2
      rcases h5 with h5 | h5
      · rw [h5] at htk h6
        rw [htk]
        refine mm_I ok_Re_compared 9 0 16 [some (.ref 31), some (.int (nI o)), none] [.int (-10), .int (-10)] (hp_SH ++ dy, g1, r) [] rfl trivial rfl rfl (fun _ => ?_) (fun q => False.elim (q rfl))
        refine mm_B ok_Re_compared 16 4 (36, [some (.ref 31), some (.int (nI o)), some (.int (g1 31 4))], [.ref 31], (hp_SH ++ dy, g1, r)) [] rfl trivial ?_
        rw [htk]
        refine mm_cV (as := []) (st := []) (q := 31) cw_Re_advance lk_Re_22 in_Re_advance sl_Re_advance rfl rfl (mm_at ok_Re_compared (i := 20) rfl).1 (ct_Re_advance dy g1 P r hP1 hN hn hB hx2 hS1.2.1) (by unfold dp_; omega) ⟨by omega, by omega⟩ (Nat.le_of_ble_eq_true rfl) (mm_vs_b (b := 77) rfl (hp_len dy)) (fun v h' hqq => ?_)
        obtain ⟨rfl, g2, hqe, hF2, a2, a3, a4⟩ := hqq; rw [hqe]
        have hP2 := hF2.nr f3_nr hP1
        have hS2 := rs_adv hS1 hF2 a2 a3 a4
        refine mm_B ok_Re_compared 21 2 (41, [some (.ref 31), some (.int (nI o)), some (.int (-10))], [.int (nI o), .ref 31], (hp_SH ++ dy, g2, r)) [] rfl trivial ?_
        rcases pb_inv h6 with ⟨e, h7, rfl⟩ | ⟨q2, c2, h7, h8⟩
        · refine mm_cV (as := [.int (nI o)]) (st := []) (q := 31) cw_Re_sum lk_Re_66 in_Re_sum sl_Re_sum rfl rfl (mm_at ok_Re_compared (i := 23) rfl).1 (IH f (by omega) 4 o (nx_ B n q1) (.inr e) g2 (cd ++ c1) (by decide) ho hx2 h7 hP2 hS2 (by omega)) (by unfold dp_; omega) ⟨by omega, by omega⟩ (Nat.le_of_ble_eq_true rfl) (mm_vs_b (b := 77) rfl (hp_len dy)) (fun v h' hqq => ?_)
          obtain ⟨rfl, g3, hqe, hF3, h32⟩ := hqq; rw [hqe]
          refine mm_I ok_Re_compared 24 0 44 [some (.ref 31), some (.int (nI o)), some (.int (-10))] [.int 0] (hp_SH ++ dy, g3, r) [] rfl trivial rfl rfl (fun q => False.elim (q rfl)) (fun _ => ?_)
          refine mm_B ok_Re_compared 25 1 (48, [some (.ref 31), some (.int (nI o)), some (.int (-10))], [.int 0], (hp_SH ++ dy, g3, r)) [] rfl trivial ?_
          exact mm_rz rfl (mm_at ok_Re_compared (i := 26) rfl).1 ⟨Nat.le_refl _, Nat.le_refl _⟩ (Or.inl rfl) (⟨rfl, g3, rfl, (hF1.tr (hF2.mono f4_f3)).tr hF3, h32⟩)
        · cases h8
          refine mm_cV (as := [.int (nI o)]) (st := []) (q := 31) cw_Re_sum lk_Re_66 in_Re_sum sl_Re_sum rfl rfl (mm_at ok_Re_compared (i := 23) rfl).1 (IH f (by omega) 4 o (nx_ B n q1) (.inl (q2, c2)) g2 (cd ++ c1) (by decide) ho hx2 h7 hP2 hS2 (by omega)) (by unfold dp_; omega) ⟨by omega, by omega⟩ (Nat.le_of_ble_eq_true rfl) (mm_vs_b (b := 77) rfl (hp_len dy)) (fun v h' hqq => ?_)
          obtain ⟨rfl, g3, hqe, hF3, hS3⟩ := hqq; rw [hqe]
          refine mm_I ok_Re_compared 24 0 44 [some (.ref 31), some (.int (nI o)), some (.int (-10))] [.int 1] (hp_SH ++ dy, g3, r) [] rfl trivial rfl rfl (fun _ => ?_) (fun q => False.elim (absurd q (by decide)))
          refine mm_B ok_Re_compared 27 2 (51, [some (.ref 31), some (.int (nI o)), some (.int (-10))], [.int (-10), .ref 31], (hp_SH ++ dy, g3, r)) [] rfl trivial ?_
          have hl2 := ps_len f _ _ _ _ _ hx2 h7
          have hl3 : (cd ++ c1 ++ c2).length = cd.length + c1.length + c2.length := by rw [List.length_append, hl0]
          refine mm_cV (as := [.int (-10)]) (st := []) (q := 31) cw_Re_write lk_Re_56 in_Re_write sl_Re_write rfl rfl (mm_at ok_Re_compared (i := 29) rfl).1 (ct_Re_write dy g3 r hS3 (show (cd ++ c1 ++ c2).length < 160 by omega) (-10)) (by unfold dp_; omega) ⟨by omega, by omega⟩ (Nat.le_of_ble_eq_true rfl) (mm_vs_b (b := 77) rfl (hp_len dy)) (fun v h' hqq => ?_)
          obtain ⟨rfl, g4, hqe, hF4, hS4⟩ := hqq; rw [hqe]
          refine mm_B ok_Re_compared 30 1 (55, [some (.ref 31), some (.int (nI o)), some (.int (-10))], [.int 1], (hp_SH ++ dy, g4, r)) [] rfl trivial ?_
          exact mm_rz rfl (mm_at ok_Re_compared (i := 31) rfl).1 ⟨Nat.le_refl _, Nat.le_refl _⟩ (Or.inr rfl) (⟨rfl, g4, rfl, ((hF1.tr (hF2.mono f4_f3)).tr hF3).tr hF4, by rw [← List.append_assoc, ← List.append_assoc]; exact hS4⟩)
      · rw [h5] at htk h6
        rw [htk]
        refine mm_I ok_Re_compared 9 0 16 [some (.ref 31), some (.int (nI o)), none] [.int (-10), .int (-11)] (hp_SH ++ dy, g1, r) [] rfl trivial rfl rfl (fun q => False.elim (absurd q (by decide))) (fun _ => ?_)
        refine mm_B ok_Re_compared 10 3 (25, [some (.ref 31), some (.int (nI o)), none], [.int (-11), .int (g1 31 4)], (hp_SH ++ dy, g1, r)) [] rfl trivial ?_
        rw [htk]
        refine mm_I ok_Re_compared 13 0 25 [some (.ref 31), some (.int (nI o)), none] [.int (-11), .int (-11)] (hp_SH ++ dy, g1, r) [] rfl trivial rfl rfl (fun _ => ?_) (fun q => False.elim (q rfl))
        refine mm_B ok_Re_compared 16 4 (36, [some (.ref 31), some (.int (nI o)), some (.int (g1 31 4))], [.ref 31], (hp_SH ++ dy, g1, r)) [] rfl trivial ?_
        rw [htk]
        refine mm_cV (as := []) (st := []) (q := 31) cw_Re_advance lk_Re_22 in_Re_advance sl_Re_advance rfl rfl (mm_at ok_Re_compared (i := 20) rfl).1 (ct_Re_advance dy g1 P r hP1 hN hn hB hx2 hS1.2.1) (by unfold dp_; omega) ⟨by omega, by omega⟩ (Nat.le_of_ble_eq_true rfl) (mm_vs_b (b := 77) rfl (hp_len dy)) (fun v h' hqq => ?_)
        obtain ⟨rfl, g2, hqe, hF2, a2, a3, a4⟩ := hqq; rw [hqe]
        have hP2 := hF2.nr f3_nr hP1
        have hS2 := rs_adv hS1 hF2 a2 a3 a4
        refine mm_B ok_Re_compared 21 2 (41, [some (.ref 31), some (.int (nI o)), some (.int (-11))], [.int (nI o), .ref 31], (hp_SH ++ dy, g2, r)) [] rfl trivial ?_
        rcases pb_inv h6 with ⟨e, h7, rfl⟩ | ⟨q2, c2, h7, h8⟩
        · refine mm_cV (as := [.int (nI o)]) (st := []) (q := 31) cw_Re_sum lk_Re_66 in_Re_sum sl_Re_sum rfl rfl (mm_at ok_Re_compared (i := 23) rfl).1 (IH f (by omega) 4 o (nx_ B n q1) (.inr e) g2 (cd ++ c1) (by decide) ho hx2 h7 hP2 hS2 (by omega)) (by unfold dp_; omega) ⟨by omega, by omega⟩ (Nat.le_of_ble_eq_true rfl) (mm_vs_b (b := 77) rfl (hp_len dy)) (fun v h' hqq => ?_)
          obtain ⟨rfl, g3, hqe, hF3, h32⟩ := hqq; rw [hqe]
          refine mm_I ok_Re_compared 24 0 44 [some (.ref 31), some (.int (nI o)), some (.int (-11))] [.int 0] (hp_SH ++ dy, g3, r) [] rfl trivial rfl rfl (fun q => False.elim (q rfl)) (fun _ => ?_)
          refine mm_B ok_Re_compared 25 1 (48, [some (.ref 31), some (.int (nI o)), some (.int (-11))], [.int 0], (hp_SH ++ dy, g3, r)) [] rfl trivial ?_
          exact mm_rz rfl (mm_at ok_Re_compared (i := 26) rfl).1 ⟨Nat.le_refl _, Nat.le_refl _⟩ (Or.inl rfl) (⟨rfl, g3, rfl, (hF1.tr (hF2.mono f4_f3)).tr hF3, h32⟩)
        · cases h8
          refine mm_cV (as := [.int (nI o)]) (st := []) (q := 31) cw_Re_sum lk_Re_66 in_Re_sum sl_Re_sum rfl rfl (mm_at ok_Re_compared (i := 23) rfl).1 (IH f (by omega) 4 o (nx_ B n q1) (.inl (q2, c2)) g2 (cd ++ c1) (by decide) ho hx2 h7 hP2 hS2 (by omega)) (by unfold dp_; omega) ⟨by omega, by omega⟩ (Nat.le_of_ble_eq_true rfl) (mm_vs_b (b := 77) rfl (hp_len dy)) (fun v h' hqq => ?_)
          obtain ⟨rfl, g3, hqe, hF3, hS3⟩ := hqq; rw [hqe]
          refine mm_I ok_Re_compared 24 0 44 [some (.ref 31), some (.int (nI o)), some (.int (-11))] [.int 1] (hp_SH ++ dy, g3, r) [] rfl trivial rfl rfl (fun _ => ?_) (fun q => False.elim (absurd q (by decide)))
          refine mm_B ok_Re_compared 27 2 (51, [some (.ref 31), some (.int (nI o)), some (.int (-11))], [.int (-11), .ref 31], (hp_SH ++ dy, g3, r)) [] rfl trivial ?_
          have hl2 := ps_len f _ _ _ _ _ hx2 h7
          have hl3 : (cd ++ c1 ++ c2).length = cd.length + c1.length + c2.length := by rw [List.length_append, hl0]
          refine mm_cV (as := [.int (-11)]) (st := []) (q := 31) cw_Re_write lk_Re_56 in_Re_write sl_Re_write rfl rfl (mm_at ok_Re_compared (i := 29) rfl).1 (ct_Re_write dy g3 r hS3 (show (cd ++ c1 ++ c2).length < 160 by omega) (-11)) (by unfold dp_; omega) ⟨by omega, by omega⟩ (Nat.le_of_ble_eq_true rfl) (mm_vs_b (b := 77) rfl (hp_len dy)) (fun v h' hqq => ?_)
          obtain ⟨rfl, g4, hqe, hF4, hS4⟩ := hqq; rw [hqe]
          refine mm_B ok_Re_compared 30 1 (55, [some (.ref 31), some (.int (nI o)), some (.int (-11))], [.int 1], (hp_SH ++ dy, g4, r)) [] rfl trivial ?_
          exact mm_rz rfl (mm_at ok_Re_compared (i := 31) rfl).1 ⟨Nat.le_refl _, Nat.le_refl _⟩ (Or.inr rfl) (⟨rfl, g4, rfl, ((hF1.tr (hF2.mono f4_f3)).tr hF3).tr hF4, by rw [← List.append_assoc, ← List.append_assoc]; exact hS4⟩)
    · refine mm_I ok_Re_compared 9 0 16 [some (.ref 31), some (.int (nI o)), none] [.int (-10), .int (g1 31 4)] (hp_SH ++ dy, g1, r) [] rfl trivial rfl rfl (fun q => False.elim (h5 (Or.inl (htk ▸ q)))) (fun _ => ?_)
      refine mm_B ok_Re_compared 10 3 (25, [some (.ref 31), some (.int (nI o)), none], [.int (-11), .int (g1 31 4)], (hp_SH ++ dy, g1, r)) [] rfl trivial ?_
      refine mm_I ok_Re_compared 13 0 25 [some (.ref 31), some (.int (nI o)), none] [.int (-11), .int (g1 31 4)] (hp_SH ++ dy, g1, r) [] rfl trivial rfl rfl (fun q => False.elim (h5 (Or.inr (htk ▸ q)))) (fun _ => ?_)
      refine mm_B ok_Re_compared 14 1 (29, [some (.ref 31), some (.int (nI o)), none], [.int 1], (hp_SH ++ dy, g1, r)) [] rfl trivial ?_
      exact mm_rz rfl (mm_at ok_Re_compared (i := 15) rfl).1 ⟨Nat.le_refl _, Nat.le_refl _⟩ (Or.inr rfl) (⟨rfl, g1, rfl, hF1, hS1⟩)
theorem rs_c_one (dy : List mm_Sh) (P : Nat → Nat → Int32) (r : (Nat → Nat → Int64) × Nat × (Nat → Int32)) {B : Nat → Int32} {n : Nat} (hN : P 31 1 = nI n) (hn : n ≤ 160) (hB : ∀ j, j < n → P 32 j = B j) {f : Nat} (IH : ∀ f', f' < f + 1 → rs_P dy P r B n f') {o q : Nat} {res : (Nat × List Int32) ⊕ Nat} {g : Nat → Nat → Int32} {cd : List Int32} (ho : o ≤ 5) (hq : q ≤ n) (hps : ps_ B n (f + 1) 6 o q = some res) (hP : nr_ g = P) (hS : rs_S B n g q cd) (hlen : cd.length + 5 ≤ q) : mm_Ct (dp_ 6 o) M_Re_one [.ref 31, .int (nI o)] (hp_SH ++ dy, g, r) 0 0 (rs_Q dy r B n g cd res) := by
  refine mm_start pl_Re (Nat.le_of_ble_eq_true rfl) ?_
  have htk := hS.2.2.1
  refine mm_B ok_Re_one 0 3 (6, [some (.ref 31), some (.int (nI o))], [.int (-6), .int (g 31 4)], (hp_SH ++ dy, g, r)) [] rfl trivial ?_
  have h6 : ∀ {t : Int32}, ¬ -6 ≤ t → t < -6 := fun h => Int32.not_le.mp h
  rcases ps_6 hps with ⟨h1, rfl⟩ | ⟨h0, h1, h2⟩ | ⟨h0, h0', h1, h2⟩ | ⟨h0, h0', h1, rfl⟩
  · have hx := nx_lt B (n := n) (q := q) (tk_ne h1)
    have hx2 := nx_ub B hq
    rw [htk]
    refine mm_I ok_Re_one 3 0 6 [some (.ref 31), some (.int (nI o))] [.int (-6), .int (tk_ B n q)] (hp_SH ++ dy, g, r) [] rfl trivial rfl rfl (fun q => False.elim (absurd q (Int32.not_lt.mpr h1))) (fun _ => ?_)
    refine mm_B ok_Re_one 4 3 (14, [some (.ref 31), some (.int (nI o))], [.int (g 31 4), .ref 31], (hp_SH ++ dy, g, r)) [] rfl trivial ?_
    rw [htk]
    refine mm_cV (as := [.int (tk_ B n q)]) (st := []) (q := 31) cw_Re_write lk_Re_56 in_Re_write sl_Re_write rfl rfl (mm_at ok_Re_one (i := 7) rfl).1 (ct_Re_write dy g r hS (by omega) (tk_ B n q)) (by unfold dp_; omega) ⟨by omega, by omega⟩ (Nat.le_of_ble_eq_true rfl) (mm_vs_b (b := 77) rfl (hp_len dy)) (fun v h' hqq => ?_)
    obtain ⟨rfl, g1, hqe, hF1, hS1⟩ := hqq; rw [hqe]
    refine mm_B ok_Re_one 8 1 (18, [some (.ref 31), some (.int (nI o))], [.ref 31], (hp_SH ++ dy, g1, r)) [] rfl trivial ?_
    have hP1 := hF1.nr f4_nr hP
    refine mm_cV (as := []) (st := []) (q := 31) cw_Re_advance lk_Re_22 in_Re_advance sl_Re_advance rfl rfl (mm_at ok_Re_one (i := 9) rfl).1 (ct_Re_advance dy g1 P r hP1 hN hn hB hx2 hS1.2.1) (by unfold dp_; omega) ⟨by omega, by omega⟩ (Nat.le_of_ble_eq_true rfl) (mm_vs_b (b := 77) rfl (hp_len dy)) (fun v h' hqq => ?_)
    obtain ⟨rfl, g2, hqe, hF2, a2, a3, a4⟩ := hqq; rw [hqe]
    refine mm_B ok_Re_one 10 1 (22, [some (.ref 31), some (.int (nI o))], [.int 1], (hp_SH ++ dy, g2, r)) [] rfl trivial ?_
    exact mm_rz rfl (mm_at ok_Re_one (i := 11) rfl).1 ⟨Nat.le_refl _, Nat.le_refl _⟩ (Or.inr rfl) (⟨rfl, g2, rfl, hF1.tr (hF2.mono f4_f3), rs_adv hS1 hF2 a2 a3 a4⟩)
  · rw [h1.1] at htk
    have hx := nx_lt B (n := n) (q := q) (by rw [h1.1]; decide)
    have hx2 := nx_ub B hq
    rw [htk]
    refine mm_I ok_Re_one 3 0 6 [some (.ref 31), some (.int (nI o))] [.int (-6), .int (-13)] (hp_SH ++ dy, g, r) [] rfl trivial rfl rfl (fun _ => ?_) (fun q => False.elim (absurd (show (-13 : Int32) < -6 by decide) q))
    refine mm_B ok_Re_one 12 3 (29, [some (.ref 31), some (.int (nI o))], [.int (-13), .int (g 31 4)], (hp_SH ++ dy, g, r)) [] rfl trivial ?_
    rw [htk]
    refine mm_I ok_Re_one 15 0 29 [some (.ref 31), some (.int (nI o))] [.int (-13), .int (-13)] (hp_SH ++ dy, g, r) [] rfl trivial rfl rfl (fun q => False.elim (q rfl)) (fun _ => ?_)
    refine mm_I ok_Re_one 16 2 34 [some (.ref 31), some (.int (nI o))] [.int 5, .int (nI o)] (hp_SH ++ dy, g, r) [] rfl trivial rfl rfl (fun q => False.elim (absurd q (nI_ge (b := 5) h1.2 (by decide)))) (fun _ => ?_)
    refine mm_B ok_Re_one 19 1 (38, [some (.ref 31), some (.int (nI o))], [.ref 31], (hp_SH ++ dy, g, r)) [] rfl trivial ?_
    refine mm_cV (as := []) (st := []) (q := 31) cw_Re_advance lk_Re_22 in_Re_advance sl_Re_advance rfl rfl (mm_at ok_Re_one (i := 20) rfl).1 (ct_Re_advance dy g P r hP hN hn hB hx2 hS.2.1) (by unfold dp_; omega) ⟨by omega, by omega⟩ (Nat.le_of_ble_eq_true rfl) (mm_vs_b (b := 77) rfl (hp_len dy)) (fun v h' hqq => ?_)
    obtain ⟨rfl, g2, hqe, hF2, a2, a3, a4⟩ := hqq; rw [hqe]
    have hP2 := hF2.nr f3_nr hP
    have hS2 := rs_adv hS hF2 a2 a3 a4
    refine mm_B ok_Re_one 21 4 (45, [some (.ref 31), some (.int (nI o))], [.int ((nI o) + 1), .ref 31], (hp_SH ++ dy, g2, r)) [] rfl trivial ?_
    rw [nI_1]
    rcases pb_inv h2 with ⟨e, h4, rfl⟩ | ⟨q2, c2, h4, h5⟩
    · refine mm_cV (as := [.int (nI (o + 1))]) (st := []) (q := 31) cw_Re_one lk_Re_72 in_Re_one sl_Re_one rfl rfl (mm_at ok_Re_one (i := 25) rfl).1 (IH f (by omega) 6 (o + 1) (nx_ B n q) (.inr e) g2 cd (by decide) (by omega) hx2 h4 hP2 hS2 (by omega)) (by unfold dp_; omega) ⟨by omega, by omega⟩ (Nat.le_of_ble_eq_true rfl) (mm_vs_b (b := 77) rfl (hp_len dy)) (fun v h' hqq => ?_)
      obtain ⟨rfl, g3, hqe, hF3, h32⟩ := hqq; rw [hqe]
      refine mm_I ok_Re_one 26 0 48 [some (.ref 31), some (.int (nI o))] [.int 0] (hp_SH ++ dy, g3, r) [] rfl trivial rfl rfl (fun q => False.elim (q rfl)) (fun _ => ?_)
      refine mm_B ok_Re_one 27 1 (52, [some (.ref 31), some (.int (nI o))], [.int 0], (hp_SH ++ dy, g3, r)) [] rfl trivial ?_
      exact mm_rz rfl (mm_at ok_Re_one (i := 28) rfl).1 ⟨Nat.le_refl _, Nat.le_refl _⟩ (Or.inl rfl) (⟨rfl, g3, rfl, (hF2.mono f4_f3).tr hF3, h32⟩)
    · cases h5
      refine mm_cV (as := [.int (nI (o + 1))]) (st := []) (q := 31) cw_Re_one lk_Re_72 in_Re_one sl_Re_one rfl rfl (mm_at ok_Re_one (i := 25) rfl).1 (IH f (by omega) 6 (o + 1) (nx_ B n q) (.inl (q2, c2)) g2 cd (by decide) (by omega) hx2 h4 hP2 hS2 (by omega)) (by unfold dp_; omega) ⟨by omega, by omega⟩ (Nat.le_of_ble_eq_true rfl) (mm_vs_b (b := 77) rfl (hp_len dy)) (fun v h' hqq => ?_)
      obtain ⟨rfl, g3, hqe, hF3, hS3⟩ := hqq; rw [hqe]
      refine mm_I ok_Re_one 26 0 48 [some (.ref 31), some (.int (nI o))] [.int 1] (hp_SH ++ dy, g3, r) [] rfl trivial rfl rfl (fun _ => ?_) (fun q => False.elim (absurd q (by decide)))
      refine mm_B ok_Re_one 29 2 (56, [some (.ref 31), some (.int (nI o))], [.int (-15), .ref 31], (hp_SH ++ dy, g3, r)) [] rfl trivial ?_
      have hl2 := ps_len f _ _ _ _ _ hx2 h4
      have hl3 : (cd ++ c2).length = cd.length + c2.length := List.length_append
      refine mm_cV (as := [.int (-15)]) (st := []) (q := 31) cw_Re_write lk_Re_56 in_Re_write sl_Re_write rfl rfl (mm_at ok_Re_one (i := 31) rfl).1 (ct_Re_write dy g3 r hS3 (show (cd ++ c2).length < 160 by omega) (-15)) (by unfold dp_; omega) ⟨by omega, by omega⟩ (Nat.le_of_ble_eq_true rfl) (mm_vs_b (b := 77) rfl (hp_len dy)) (fun v h' hqq => ?_)
      obtain ⟨rfl, g4, hqe, hF4, hS4⟩ := hqq; rw [hqe]
      refine mm_B ok_Re_one 32 1 (60, [some (.ref 31), some (.int (nI o))], [.int 1], (hp_SH ++ dy, g4, r)) [] rfl trivial ?_
      exact mm_rz rfl (mm_at ok_Re_one (i := 33) rfl).1 ⟨Nat.le_refl _, Nat.le_refl _⟩ (Or.inr rfl) (⟨rfl, g4, rfl, ((hF2.mono f4_f3).tr hF3).tr hF4, by rw [← List.append_assoc]; exact hS4⟩)
  · rw [h1.1] at htk
    have hx := nx_lt B (n := n) (q := q) (by rw [h1.1]; decide)
    have hx2 := nx_ub B hq
    rw [htk]
    refine mm_I ok_Re_one 3 0 6 [some (.ref 31), some (.int (nI o))] [.int (-6), .int (-16)] (hp_SH ++ dy, g, r) [] rfl trivial rfl rfl (fun _ => ?_) (fun q => False.elim (absurd (show (-16 : Int32) < -6 by decide) q))
    refine mm_B ok_Re_one 12 3 (29, [some (.ref 31), some (.int (nI o))], [.int (-13), .int (g 31 4)], (hp_SH ++ dy, g, r)) [] rfl trivial ?_
    rw [htk]
    refine mm_I ok_Re_one 15 0 29 [some (.ref 31), some (.int (nI o))] [.int (-13), .int (-16)] (hp_SH ++ dy, g, r) [] rfl trivial rfl rfl (fun _ => ?_) (fun q => False.elim (absurd q (by decide)))
    refine mm_B ok_Re_one 34 3 (67, [some (.ref 31), some (.int (nI o))], [.int (-16), .int (g 31 4)], (hp_SH ++ dy, g, r)) [] rfl trivial ?_
    rw [htk]
    refine mm_I ok_Re_one 37 0 67 [some (.ref 31), some (.int (nI o))] [.int (-16), .int (-16)] (hp_SH ++ dy, g, r) [] rfl trivial rfl rfl (fun q => False.elim (q rfl)) (fun _ => ?_)
    refine mm_I ok_Re_one 38 2 72 [some (.ref 31), some (.int (nI o))] [.int 5, .int (nI o)] (hp_SH ++ dy, g, r) [] rfl trivial rfl rfl (fun q => False.elim (absurd q (nI_ge (b := 5) h1.2 (by decide)))) (fun _ => ?_)
    refine mm_B ok_Re_one 41 1 (76, [some (.ref 31), some (.int (nI o))], [.ref 31], (hp_SH ++ dy, g, r)) [] rfl trivial ?_
    refine mm_cV (as := []) (st := []) (q := 31) cw_Re_advance lk_Re_22 in_Re_advance sl_Re_advance rfl rfl (mm_at ok_Re_one (i := 42) rfl).1 (ct_Re_advance dy g P r hP hN hn hB hx2 hS.2.1) (by unfold dp_; omega) ⟨by omega, by omega⟩ (Nat.le_of_ble_eq_true rfl) (mm_vs_b (b := 77) rfl (hp_len dy)) (fun v h' hqq => ?_)
    obtain ⟨rfl, g2, hqe, hF2, a2, a3, a4⟩ := hqq; rw [hqe]
    have hP2 := hF2.nr f3_nr hP
    have hS2 := rs_adv hS hF2 a2 a3 a4
    refine mm_B ok_Re_one 43 4 (83, [some (.ref 31), some (.int (nI o))], [.int ((nI o) + 1), .ref 31], (hp_SH ++ dy, g2, r)) [] rfl trivial ?_
    rw [nI_1]
    rcases h2 with ⟨e, h4, rfl⟩ | ⟨q2, c2, h4, h5⟩
    · refine mm_cV (as := [.int (nI (o + 1))]) (st := []) (q := 31) cw_Re_either lk_Re_43 in_Re_either sl_Re_either rfl rfl (mm_at ok_Re_one (i := 47) rfl).1 (IH f (by omega) 0 (o + 1) (nx_ B n q) (.inr e) g2 cd (by decide) (by omega) hx2 h4 hP2 hS2 (by omega)) (by unfold dp_; omega) ⟨by omega, by omega⟩ (Nat.le_of_ble_eq_true rfl) (mm_vs_b (b := 77) rfl (hp_len dy)) (fun v h' hqq => ?_)
      obtain ⟨rfl, g3, hqe, hF3, h32⟩ := hqq; rw [hqe]
      refine mm_I ok_Re_one 48 0 86 [some (.ref 31), some (.int (nI o))] [.int 0] (hp_SH ++ dy, g3, r) [] rfl trivial rfl rfl (fun _ => ?_) (fun q => False.elim (q rfl))
      refine mm_B ok_Re_one 53 1 (99, [some (.ref 31), some (.int (nI o))], [.int 0], (hp_SH ++ dy, g3, r)) [] rfl trivial ?_
      exact mm_rz rfl (mm_at ok_Re_one (i := 54) rfl).1 ⟨Nat.le_refl _, Nat.le_refl _⟩ (Or.inl rfl) (⟨rfl, g3, rfl, (hF2.mono f4_f3).tr hF3, h32⟩)
    · refine mm_cV (as := [.int (nI (o + 1))]) (st := []) (q := 31) cw_Re_either lk_Re_43 in_Re_either sl_Re_either rfl rfl (mm_at ok_Re_one (i := 47) rfl).1 (IH f (by omega) 0 (o + 1) (nx_ B n q) (.inl (q2, c2)) g2 cd (by decide) (by omega) hx2 h4 hP2 hS2 (by omega)) (by unfold dp_; omega) ⟨by omega, by omega⟩ (Nat.le_of_ble_eq_true rfl) (mm_vs_b (b := 77) rfl (hp_len dy)) (fun v h' hqq => ?_)
      obtain ⟨rfl, g3, hqe, hF3, hS3⟩ := hqq; rw [hqe]
      have hF13 := (hF2.mono f4_f3).tr hF3
      have hP3 := hF13.nr f4_nr hP
      have htk := hS3.2.2.1
      have hl2 := ps_len f _ _ _ _ _ hx2 h4
      refine mm_I ok_Re_one 48 0 86 [some (.ref 31), some (.int (nI o))] [.int 1] (hp_SH ++ dy, g3, r) [] rfl trivial rfl rfl (fun q => False.elim (absurd q (by decide))) (fun _ => ?_)
      refine mm_B ok_Re_one 49 3 (95, [some (.ref 31), some (.int (nI o))], [.int (-17), .int (g3 31 4)], (hp_SH ++ dy, g3, r)) [] rfl trivial ?_
      rcases h5 with ⟨h5, rfl⟩ | ⟨h5, rfl⟩
      · rw [h5] at htk
        have hx4 := nx_ub B hl2.1.2
        rw [htk]
        refine mm_I ok_Re_one 52 0 95 [some (.ref 31), some (.int (nI o))] [.int (-17), .int (-17)] (hp_SH ++ dy, g3, r) [] rfl trivial rfl rfl (fun _ => ?_) (fun q => False.elim (q rfl))
        refine mm_B ok_Re_one 55 1 (101, [some (.ref 31), some (.int (nI o))], [.ref 31], (hp_SH ++ dy, g3, r)) [] rfl trivial ?_
        refine mm_cV (as := []) (st := []) (q := 31) cw_Re_advance lk_Re_22 in_Re_advance sl_Re_advance rfl rfl (mm_at ok_Re_one (i := 56) rfl).1 (ct_Re_advance dy g3 P r hP3 hN hn hB hx4 hS3.2.1) (by unfold dp_; omega) ⟨by omega, by omega⟩ (Nat.le_of_ble_eq_true rfl) (mm_vs_b (b := 77) rfl (hp_len dy)) (fun v h' hqq => ?_)
        obtain ⟨rfl, g4, hqe, hF4, b2, b3, b4⟩ := hqq; rw [hqe]
        refine mm_B ok_Re_one 57 1 (105, [some (.ref 31), some (.int (nI o))], [.int 1], (hp_SH ++ dy, g4, r)) [] rfl trivial ?_
        exact mm_rz rfl (mm_at ok_Re_one (i := 58) rfl).1 ⟨Nat.le_refl _, Nat.le_refl _⟩ (Or.inr rfl) (⟨rfl, g4, rfl, hF13.tr (hF4.mono f4_f3), rs_adv hS3 hF4 b2 b3 b4⟩)
      · refine mm_I ok_Re_one 52 0 95 [some (.ref 31), some (.int (nI o))] [.int (-17), .int (g3 31 4)] (hp_SH ++ dy, g3, r) [] rfl trivial rfl rfl (fun q => False.elim (h5 (htk ▸ q))) (fun _ => ?_)
        refine mm_B ok_Re_one 53 1 (99, [some (.ref 31), some (.int (nI o))], [.int 0], (hp_SH ++ dy, g3, r)) [] rfl trivial ?_
        exact mm_rz rfl (mm_at ok_Re_one (i := 54) rfl).1 ⟨Nat.le_refl _, Nat.le_refl _⟩ (Or.inl rfl) (⟨rfl, g3, rfl, hF13, hS3.1⟩)
  · have hend : rs_Q dy r B n g cd (.inr (ts_ B n q)) (some (.int 0)) (hp_SH ++ dy, g, r) := ⟨rfl, g, rfl, fr_.rf, hS.1⟩
    rw [htk]
    refine mm_I ok_Re_one 3 0 6 [some (.ref 31), some (.int (nI o))] [.int (-6), .int (tk_ B n q)] (hp_SH ++ dy, g, r) [] rfl trivial rfl rfl (fun _ => ?_) (fun q => False.elim (absurd (h6 h0) q))
    refine mm_B ok_Re_one 12 3 (29, [some (.ref 31), some (.int (nI o))], [.int (-13), .int (g 31 4)], (hp_SH ++ dy, g, r)) [] rfl trivial ?_
    rw [htk]
    refine mm_I ok_Re_one 15 0 29 [some (.ref 31), some (.int (nI o))] [.int (-13), .int (tk_ B n q)] (hp_SH ++ dy, g, r) [] rfl trivial rfl rfl (fun q13 => ?_) (fun q13 => ?_)
    · refine mm_B ok_Re_one 34 3 (67, [some (.ref 31), some (.int (nI o))], [.int (-16), .int (g 31 4)], (hp_SH ++ dy, g, r)) [] rfl trivial ?_
      rw [htk]
      refine mm_I ok_Re_one 37 0 67 [some (.ref 31), some (.int (nI o))] [.int (-16), .int (tk_ B n q)] (hp_SH ++ dy, g, r) [] rfl trivial rfl rfl (fun q16 => ?_) (fun q16 => ?_)
      · refine mm_B ok_Re_one 59 1 (107, [some (.ref 31), some (.int (nI o))], [.int 0], (hp_SH ++ dy, g, r)) [] rfl trivial ?_
        exact mm_rz rfl (mm_at ok_Re_one (i := 60) rfl).1 ⟨Nat.le_refl _, Nat.le_refl _⟩ (Or.inl rfl) (hend)
      · have q16 : tk_ B n q = -16 := q16
        refine mm_I ok_Re_one 38 2 72 [some (.ref 31), some (.int (nI o))] [.int 5, .int (nI o)] (hp_SH ++ dy, g, r) [] rfl trivial rfl rfl (fun _ => ?_) (fun q => False.elim (q (nI_le (a := 5) (Nat.not_lt.mp (fun e => h1 ⟨q16, e⟩)) (by omega))))
        refine mm_B ok_Re_one 59 1 (107, [some (.ref 31), some (.int (nI o))], [.int 0], (hp_SH ++ dy, g, r)) [] rfl trivial ?_
        exact mm_rz rfl (mm_at ok_Re_one (i := 60) rfl).1 ⟨Nat.le_refl _, Nat.le_refl _⟩ (Or.inl rfl) (hend)
    · have q13 : tk_ B n q = -13 := q13
      refine mm_I ok_Re_one 16 2 34 [some (.ref 31), some (.int (nI o))] [.int 5, .int (nI o)] (hp_SH ++ dy, g, r) [] rfl trivial rfl rfl (fun _ => ?_) (fun q => False.elim (q (nI_le (a := 5) (Nat.not_lt.mp (fun e => h0' ⟨q13, e⟩)) (by omega))))
      refine mm_B ok_Re_one 34 3 (67, [some (.ref 31), some (.int (nI o))], [.int (-16), .int (g 31 4)], (hp_SH ++ dy, g, r)) [] rfl trivial ?_
      rw [htk]
      refine mm_I ok_Re_one 37 0 67 [some (.ref 31), some (.int (nI o))] [.int (-16), .int (tk_ B n q)] (hp_SH ++ dy, g, r) [] rfl trivial rfl rfl (fun q16 => ?_) (fun q16 => ?_)
      · refine mm_B ok_Re_one 59 1 (107, [some (.ref 31), some (.int (nI o))], [.int 0], (hp_SH ++ dy, g, r)) [] rfl trivial ?_
        exact mm_rz rfl (mm_at ok_Re_one (i := 60) rfl).1 ⟨Nat.le_refl _, Nat.le_refl _⟩ (Or.inl rfl) (hend)
      · have q16 : tk_ B n q = -16 := q16
        exact absurd (q13.symm.trans q16) (by decide)
theorem rs_all (dy : List mm_Sh) (P : Nat → Nat → Int32) (r : (Nat → Nat → Int64) × Nat × (Nat → Int32)) {B : Nat → Int32} {n : Nat} (hN : P 31 1 = nI n) (hn : n ≤ 160) (hB : ∀ j, j < n → P 32 j = B j) : ∀ f, rs_P dy P r B n f := by
  have h : ∀ F f, f < F → rs_P dy P r B n f := by
    intro F
    induction F with
    | zero => intro f hf; omega
    | succ F ih =>
      intro f hf
      cases f with
      | zero => intro lev o q res g cd _ _ _ h; cases h
      | succ f =>
        have IH : ∀ f', f' < f + 1 → rs_P dy P r B n f' := fun f' h' => ih f' (by omega)
        intro lev o q res g cd hl ho hq hps hP hS hlen
        match lev, hl, hps with
        | 0, _, hps => exact rs_c_either dy P r hN hn hB IH ho hq hps hP hS hlen
        | 1, _, hps => exact rs_c_both dy P r hN hn hB IH ho hq hps hP hS hlen
        | 2, _, hps => exact rs_c_denied dy P r hN hn hB IH ho hq hps hP hS hlen
        | 3, _, hps => exact rs_c_compared dy P r hN hn hB IH ho hq hps hP hS hlen
        | 4, _, hps => exact rs_c_sum dy P r hN hn hB IH ho hq hps hP hS hlen
        | 5, _, hps => exact rs_c_term dy P r hN hn hB IH ho hq hps hP hS hlen
        | 6, _, hps => exact rs_c_one dy P r hN hn hB IH ho hq hps hP hS hlen
        | k + 7, hl, _ => omega
  exact fun f => h (f + 1) f (Nat.lt_succ_self f)

