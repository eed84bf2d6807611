/-! ===== calls that change the state: child ===== -/
def nx_child (A : sA) (on off ag : Nat) : sA := (A.1, (A.2.1.1 + 1, up_ A.2.1.2.1 A.2.1.1 on, up_ A.2.1.2.2.1 A.2.1.1 off, up_ A.2.1.2.2.2 A.2.1.1 ag), A.2.2)
def ag_ (a : Int32) : Option Nat := if a < 5 then none else ix_ 15 a
def ch_ (w a : Int32) : Option (Nat × Nat) := match ix_ 100 w, ag_ a with
  | some x, some y => if x % 10 < 6 ∧ x / 10 ≤ x % 10 then some (x, y) else none
  | _, _ => none
def an_child (A : sA) (w a : Int32) : Int32 × sA := match ch_ w a with
  | some p => if A.2.1.1 = 6 then (-4, A) else (nI A.2.1.1, nx_child A (p.1 / 10) (p.1 % 10) p.2)
  | none => (-2, A)
theorem SI_child {A : sA} (h : SI A) (on off ag : Nat) : SI (nx_child A on off ag) := h
theorem ag_some {a : Int32} {y : Nat} (h : ag_ a = some y) : a = nI y ∧ y < 15 ∧ f_Sc_isAge a = 1 := by
  unfold ag_ at h
  split at h
  · cases h
  · rename_i h5
    obtain ⟨h1, rfl⟩ := ix_some (by decide) h
    refine ⟨rfl, h1, ?_⟩
    unfold f_Sc_isAge
    rw [if_neg h5, if_neg (show ¬ (14 : Int32) < nI y from Int32.not_lt.mpr (nI_le (b := 14) (by omega) (by decide)))]
theorem ag_none {a : Int32} (h : ag_ a = none) : f_Sc_isAge a = 0 := by
  unfold ag_ at h
  unfold f_Sc_isAge
  split at h
  · rw [if_pos ‹_›]
  · rename_i h5
    rw [if_neg h5]
    rcases g1_n (n := 14) (by decide) h with h2 | h2
    · exact absurd (Int32.lt_trans h2 (by decide)) h5
    · rw [if_pos (show (14 : Int32) < a from h2)]
theorem CI_child {dy : List mm_Sh} {A : sA} {g g' : Nat → Nat → Int32} (hI : CI dy (nr_ g) A) {on off ag : Nat} (h6 : A.2.1.1 < 6) (ho : on ≤ off) (hf : off ≤ 5) (e0 : g' 2 1 = nI (A.2.1.1 + 1)) (e3 : g' 6 A.2.1.1 = nI on) (e4 : g' 7 A.2.1.1 = nI off) (e5 : g' 8 A.2.1.1 = nI ag) (e25 : g' 25 2 = 0) (hF : ∀ a j, ¬ ((a = 2 ∧ j = 1) ∨ ((a = 6 ∨ a = 7 ∨ a = 8) ∧ j = A.2.1.1) ∨ (a = 25 ∧ j = 2)) → g' a j = g a j) : CI dy (nr_ g') (nx_child A on off ag) := by
  obtain ⟨hL, hK, hPl, hX, hB, hS, hIm, hFd, hW⟩ := hI
  have hP : ∀ a j, ¬ ((a = 2 ∧ j = 1) ∨ ((a = 6 ∨ a = 7 ∨ a = 8) ∧ j = A.2.1.1) ∨ (a = 25 ∧ j = 2)) → nr_ g' a j = nr_ g a j := fun a j h => nr_cong (hF a j h)
  refine ⟨rl_L_fr hL (fun a j h => hP a j (by omega)), ⟨by rw [nr_eq g' rfl]; exact e0, by show A.2.1.1 + 1 ≤ 6; omega, fun c hc => ?_⟩, cP_fr hPl (fun a j h => hP a j (by omega)), cX_fr hX (fun a j h => hP a j (by omega)), cB_fr hB (fun a j h => hP a j (by omega)), cS_fr hS (fun a j h => hP a j (by omega)), cI_fr hIm (fun a j h => hP a j (by omega)), Or.inl (by rw [nr_eq g' rfl]; exact e25), wf_P hW (fun a j h => hP a j (by omega))⟩
  show nr_ g' 6 c = nI (up_ A.2.1.2.1 A.2.1.1 on c) ∧ nr_ g' 7 c = nI (up_ A.2.1.2.2.1 A.2.1.1 off c) ∧ up_ A.2.1.2.1 A.2.1.1 on c ≤ up_ A.2.1.2.2.1 A.2.1.1 off c ∧ up_ A.2.1.2.2.1 A.2.1.1 off c ≤ 5 ∧ nr_ g' 8 c = nI (up_ A.2.1.2.2.2 A.2.1.1 ag c)
  by_cases e : c = A.2.1.1
  · rw [e, up_at, up_at, up_at, nr_eq g' rfl, nr_eq g' rfl, nr_eq g' rfl]
    exact ⟨e3, e4, ho, hf, e5⟩
  · rw [up_no e, up_no e, up_no e, hP 6 c (by omega), hP 7 c (by omega), hP 8 c (by omega)]
    exact hK.2.2 c (by have : c < A.2.1.1 + 1 := hc; omega)
theorem MI_child {A : sA} {g g' : Nat → Nat → Int32} (hI : MI (nr_ g) A) {on off ag : Nat} (h6 : A.2.1.1 < 6) (ho : on ≤ off) (hf : off ≤ 5) (e0 : g' 52 14 = nI (A.2.1.1 + 1)) (e3 : g' 59 A.2.1.1 = nI on) (e4 : g' 60 A.2.1.1 = nI off) (e5 : g' 61 A.2.1.1 = nI ag) (hF : ∀ a j, ¬ ((a = 52 ∧ j = 14) ∨ ((a = 59 ∨ a = 60 ∨ a = 61) ∧ j = A.2.1.1)) → g' a j = g a j) : MI (nr_ g') (nx_child A on off ag) := by
  obtain ⟨hL, hK, hPl, hX, hB, hS, hIm⟩ := hI
  have hP : ∀ a j, ¬ ((a = 52 ∧ j = 14) ∨ ((a = 59 ∨ a = 60 ∨ a = 61) ∧ j = A.2.1.1)) → nr_ g' a j = nr_ g a j := fun a j h => nr_cong (hF a j h)
  refine ⟨rl_LM_fr hL (fun a j h => hP a j (by omega)), ⟨by rw [nr_eq g' rfl]; exact e0, by show A.2.1.1 + 1 ≤ 6; omega, fun c hc => ?_⟩, dP_fr hPl (fun j => hP 62 j (by omega)), dX_fr hX (fun a j h => hP a j (by omega)), dB_fr hB (fun a j h => hP a j (by omega)), dS_fr hS (fun a j h => hP a j (by omega)), dI_fr hIm (fun a j h => hP a j (by omega))⟩
  show nr_ g' 59 c = nI (up_ A.2.1.2.1 A.2.1.1 on c) ∧ nr_ g' 60 c = nI (up_ A.2.1.2.2.1 A.2.1.1 off c) ∧ up_ A.2.1.2.1 A.2.1.1 on c ≤ up_ A.2.1.2.2.1 A.2.1.1 off c ∧ up_ A.2.1.2.2.1 A.2.1.1 off c ≤ 5 ∧ nr_ g' 61 c = nI (up_ A.2.1.2.2.2 A.2.1.1 ag c)
  by_cases e : c = A.2.1.1
  · rw [e, up_at, up_at, up_at, nr_eq g' rfl, nr_eq g' rfl, nr_eq g' rfl]
    exact ⟨e3, e4, ho, hf, e5⟩
  · rw [up_no e, up_no e, up_no e, hP 59 c (by omega), hP 60 c (by omega), hP 61 c (by omega)]
    exact hK.2.2 c (by have : c < A.2.1.1 + 1 := hc; omega)
theorem ct_Bo_addChild (dy : List mm_Sh) (g : Nat → Nat → Int32) (r : (Nat → Nat → Int64) × Nat × (Nat → Int32)) {n : Nat} (e : g 2 1 = nI n) (hn : n < 6) (x y z : Int32) : mm_Ct 1 M_Bo_addChild [.ref 2, .int x, .int y, .int z] (hp_SH ++ dy, g, r) 0 0 (fun v h' => v = some (.int (nI n)) ∧ h' = (hp_SH ++ dy, mm_up (mm_up (mm_up (mm_up g 6 n x) 7 n y) 8 n z) 2 1 (nI (n + 1)), r)) := by
  refine mm_start pl_Bo (Nat.le_of_ble_eq_true rfl) ?_
  have hv : vp_in (g 2 1) 6 := by rw [e]; exact nI_vi hn (by decide)
  refine mm_B ok_Bo_addChild 0 28 (46, [some (.ref 2), some (.int x), some (.int y), some (.int z)], [.int (((g 2 1) + 1) - 1)], (hp_SH ++ dy, mm_up (mm_up (mm_up (mm_up g 6 ((g 2 1).toNatClampNeg) x) 7 ((g 2 1).toNatClampNeg) y) 8 ((g 2 1).toNatClampNeg) z) 2 1 ((g 2 1) + 1), r)) [vp_in (g 2 1) 6, vp_in (g 2 1) 6, vp_in (g 2 1) 6] rfl (show (vp_in (g 2 1) 6) ∧ (vp_in (g 2 1) 6) ∧ (vp_in (g 2 1) 6) from ⟨hv, hv, hv⟩) ?_
  exact mm_ri rfl (mm_at ok_Bo_addChild (i := 28) rfl).1 ⟨Nat.le_refl _, Nat.le_refl _⟩ (⟨by rw [e, nI_1, nI_pred], by rw [e, nI_1, nI_clamp (by omega)]⟩)
theorem cc_bring (dy : List mm_Sh) (g : Nat → Nat → Int32) (r : (Nat → Nat → Int64) × Nat × (Nat → Int32)) {A : sA} (hI : CI dy (nr_ g) A) (w a : Int32) : mm_Ct 4 M_Sc_bring [.ref 0, .int w, .int a] (hp_SH ++ dy, g, r) 0 0 (RC dy g r (an_child A w a).2 (.int (an_child A w a).1)) := by
  have hK := hI.2.1
  have h6 := hK.2.1
  have e21 : g 2 1 = nI A.2.1.1 := by rw [← nr_eq g (k := 2) (j := 1) rfl]; exact hK.1
  have hbad : ch_ w a = none → RC dy g r (an_child A w a).2 (.int (an_child A w a).1) (some (.int (-2))) (hp_SH ++ dy, g, r) := fun h => by
    rw [show an_child A w a = (-2, A) by unfold an_child; rw [h]]
    exact RC_q rfl hI fr_.rf
  refine mm_start pl_Sc (Nat.le_of_ble_eq_true rfl) ?_
  refine mm_I ok_Sc_bring 0 1 1 [some (.ref 0), some (.int w), some (.int a)] [.int w] (hp_SH ++ dy, g, r) [] rfl trivial rfl rfl (fun h0 => ?_) (fun h0 => ?_)
  · refine mm_B ok_Sc_bring 22 1 (44, [some (.ref 0), some (.int w), some (.int a)], [.int (-2)], (hp_SH ++ dy, g, r)) [] rfl trivial ?_
    exact mm_ri rfl (mm_at ok_Sc_bring (i := 23) rfl).1 ⟨Nat.le_refl _, Nat.le_refl _⟩ (hbad (by unfold ch_ ix_; rw [if_pos h0]))
  · obtain ⟨x, hx, rfl⟩ := nI_of h0
    have e1 : nI x / 10 = nI (x / 10) := nI_div (b := 10) hx (by decide)
    have e2 : nI x - nI x / 10 * 10 = nI (x % 10) := nI_mod (b := 10) hx (by decide)
    have hbx : ∀ n, ¬ n < 6 → ix_ 6 (nI n) = none ∨ 2 ^ 31 ≤ n := fun n hn => by
      rcases Nat.lt_or_ge n (2 ^ 31) with h | h
      · left
        unfold ix_
        rw [if_neg (nI_pos h), if_pos (nI_le (by omega) h)]
      · exact Or.inr h
    refine mm_B ok_Sc_bring 2 3 (8, [some (.ref 0), some (.int (nI x)), some (.int a)], [.int ((nI x) / 10)], (hp_SH ++ dy, g, r)) [¬ (10 : Int32) = 0] rfl (show ¬ (10 : Int32) = 0 from ((by decide))) ?_
    rw [e1]
    refine mm_cS (as := [.int (nI (x / 10))]) (st := []) cw_Sc_isBend lk_Sc_142 sx_Sc_isBend (mm_at ok_Sc_bring (i := 5) rfl).1 (ct_Sc_isBend (hp_SH ++ dy, g, r) (nI (x / 10))) (by decide) ⟨by omega, by omega⟩ (Nat.le_of_ble_eq_true rfl) (mm_vs_b (b := 77) rfl (hp_len dy)) (fun v h' hqq => ?_)
    obtain ⟨rfl, hqe⟩ := hqq; rw [hqe, bx_]
    by_cases h1 : x / 10 < 6
    · rw [ix_at h1 (by decide)]
      refine mm_I ok_Sc_bring 6 0 11 [some (.ref 0), some (.int (nI x)), some (.int a)] [.int (iz_ (some (x / 10)))] (hp_SH ++ dy, g, r) [] rfl trivial rfl rfl (fun q => False.elim (one0 q)) (fun _ => ?_)
      refine mm_B ok_Sc_bring 7 3 (18, [some (.ref 0), some (.int (nI x)), some (.int a)], [.int ((nI x) - (nI x) / 10 * 10)], (hp_SH ++ dy, g, r)) [¬ (10 : Int32) = 0] rfl (show ¬ (10 : Int32) = 0 from ((by decide))) ?_
      rw [e2]
      refine mm_cS (as := [.int (nI (x % 10))]) (st := []) cw_Sc_isBend lk_Sc_142 sx_Sc_isBend (mm_at ok_Sc_bring (i := 10) rfl).1 (ct_Sc_isBend (hp_SH ++ dy, g, r) (nI (x % 10))) (by decide) ⟨by omega, by omega⟩ (Nat.le_of_ble_eq_true rfl) (mm_vs_b (b := 77) rfl (hp_len dy)) (fun v h' hqq => ?_)
      obtain ⟨rfl, hqe⟩ := hqq; rw [hqe, bx_]
      by_cases h2 : x % 10 < 6
      · rw [ix_at h2 (by decide)]
        refine mm_I ok_Sc_bring 11 0 21 [some (.ref 0), some (.int (nI x)), some (.int a)] [.int (iz_ (some (x % 10)))] (hp_SH ++ dy, g, r) [] rfl trivial rfl rfl (fun q => False.elim (one0 q)) (fun _ => ?_)
        refine mm_B ok_Sc_bring 12 6 (32, [some (.ref 0), some (.int (nI x)), some (.int a)], [.int ((nI x) - (nI x) / 10 * 10), .int ((nI x) / 10)], (hp_SH ++ dy, g, r)) [¬ (10 : Int32) = 0, ¬ (10 : Int32) = 0] rfl (show (¬ (10 : Int32) = 0) ∧ (¬ (10 : Int32) = 0) from ⟨((by decide)), ((by decide))⟩) ?_
        rw [e2, e1]
        refine mm_I ok_Sc_bring 18 0 32 [some (.ref 0), some (.int (nI x)), some (.int a)] [.int (nI (x % 10)), .int (nI (x / 10))] (hp_SH ++ dy, g, r) [] rfl trivial rfl rfl (fun h3 => ?_) (fun h3 => ?_)
        · have h3 := (nI_ltI (by omega) (by omega)).mp h3
          refine mm_B ok_Sc_bring 22 1 (44, [some (.ref 0), some (.int (nI x)), some (.int a)], [.int (-2)], (hp_SH ++ dy, g, r)) [] rfl trivial ?_
          exact mm_ri rfl (mm_at ok_Sc_bring (i := 23) rfl).1 ⟨Nat.le_refl _, Nat.le_refl _⟩ (hbad (by unfold ch_; rw [ix_at (show x < 100 by omega) (by decide)]; cases ag_ a with | none => rfl | some y => exact if_neg (by omega)))
        · have h3 := (nI_leI (by omega) (by omega)).mp (Int32.not_lt.mp h3)
          refine mm_B ok_Sc_bring 19 1 (36, [some (.ref 0), some (.int (nI x)), some (.int a)], [.int a], (hp_SH ++ dy, g, r)) [] rfl trivial ?_
          refine mm_cS (as := [.int a]) (st := []) cw_Sc_isAge lk_Sc_280 sx_Sc_isAge (mm_at ok_Sc_bring (i := 20) rfl).1 (ct_Sc_isAge (hp_SH ++ dy, g, r) a) (by decide) ⟨by omega, by omega⟩ (Nat.le_of_ble_eq_true rfl) (mm_vs_b (b := 77) rfl (hp_len dy)) (fun v h' hqq => ?_)
          obtain ⟨rfl, hqe⟩ := hqq; rw [hqe]
          cases ha : ag_ a with
          | none =>
            rw [ag_none ha]
            refine mm_I ok_Sc_bring 21 0 39 [some (.ref 0), some (.int (nI x)), some (.int a)] [.int 0] (hp_SH ++ dy, g, r) [] rfl trivial rfl rfl (fun q => False.elim (q rfl)) (fun _ => ?_)
            refine mm_B ok_Sc_bring 22 1 (44, [some (.ref 0), some (.int (nI x)), some (.int a)], [.int (-2)], (hp_SH ++ dy, g, r)) [] rfl trivial ?_
            exact mm_ri rfl (mm_at ok_Sc_bring (i := 23) rfl).1 ⟨Nat.le_refl _, Nat.le_refl _⟩ (hbad (by unfold ch_; rw [ix_at (show x < 100 by omega) (by decide), ha]))
          | some y =>
            obtain ⟨rfl, hy, hya⟩ := ag_some ha
            have hch : ch_ (nI x) (nI y) = some (x, y) := by unfold ch_; rw [ix_at (show x < 100 by omega) (by decide), ha]; exact if_pos ⟨h2, h3⟩
            rw [hya]
            refine mm_I ok_Sc_bring 21 0 39 [some (.ref 0), some (.int (nI x)), some (.int (nI y))] [.int 1] (hp_SH ++ dy, g, r) [] rfl trivial rfl rfl (fun _ => ?_) (fun q => False.elim (absurd q (by decide)))
            refine mm_B ok_Sc_bring 24 5 (57, [some (.ref 0), some (.int (nI x)), some (.int (nI y))], [.int 6, .int (g 2 1)], (hp_SH ++ dy, g, r)) [] rfl trivial ?_
            rw [e21]
            by_cases hc : A.2.1.1 = 6
            · rw [show an_child A (nI x) (nI y) = (-4, A) by unfold an_child; rw [hch]; exact if_pos hc]
              refine mm_I ok_Sc_bring 29 0 57 [some (.ref 0), some (.int (nI x)), some (.int (nI y))] [.int 6, .int (nI A.2.1.1)] (hp_SH ++ dy, g, r) [] rfl trivial rfl rfl (fun q => False.elim (absurd (hc ▸ q : nI 6 < 6) (by decide))) (fun _ => ?_)
              refine mm_B ok_Sc_bring 30 1 (62, [some (.ref 0), some (.int (nI x)), some (.int (nI y))], [.int (-4)], (hp_SH ++ dy, g, r)) [] rfl trivial ?_
              exact mm_ri rfl (mm_at ok_Sc_bring (i := 31) rfl).1 ⟨Nat.le_refl _, Nat.le_refl _⟩ (RC_q rfl hI fr_.rf)
            · rw [show an_child A (nI x) (nI y) = (nI A.2.1.1, nx_child A (x / 10) (x % 10) y) by unfold an_child; rw [hch]; exact if_neg hc]
              refine mm_I ok_Sc_bring 29 0 57 [some (.ref 0), some (.int (nI x)), some (.int (nI y))] [.int 6, .int (nI A.2.1.1)] (hp_SH ++ dy, g, r) [] rfl trivial rfl rfl (fun _ => ?_) (fun q => False.elim (q (nI_lt (b := 6) (by omega) (by decide))))
              refine mm_B ok_Sc_bring 32 2 (67, [some (.ref 0), some (.int (nI x)), some (.int (nI y))], [.ref 25], (hp_SH ++ dy, g, r)) [] rfl trivial ?_
              refine mm_cV (as := []) (st := []) (q := 25) cw_Se_forget lk_Sc_83 in_Se_forget sl_Se_forget rfl rfl (mm_at ok_Sc_bring (i := 34) rfl).1 (ct_Se_forget dy g r) (by decide) ⟨by omega, by omega⟩ (Nat.le_of_ble_eq_true rfl) (mm_vs_b (b := 77) rfl (hp_len dy)) (fun v h' hqq => ?_)
              obtain ⟨rfl, hqe⟩ := hqq; rw [hqe]
              refine mm_B ok_Sc_bring 35 10 (86, [some (.ref 0), some (.int (nI x)), some (.int (nI y))], [.int (nI y), .int ((nI x) - (nI x) / 10 * 10), .int ((nI x) / 10), .ref 2], (hp_SH ++ dy, mm_up g 25 2 0, r)) [¬ (10 : Int32) = 0, ¬ (10 : Int32) = 0] rfl (show (¬ (10 : Int32) = 0) ∧ (¬ (10 : Int32) = 0) from ⟨((by decide)), ((by decide))⟩) ?_
              rw [e2, e1]
              refine mm_cV (as := [.int (nI (x / 10)), .int (nI (x % 10)), .int (nI y)]) (st := []) (q := 2) cw_Bo_addChild lk_Sc_296 in_Bo_addChild sl_Bo_addChild rfl rfl (mm_at ok_Sc_bring (i := 45) rfl).1 (ct_Bo_addChild dy (mm_up g 25 2 0) r (n := A.2.1.1) e21 (by omega) (nI (x / 10)) (nI (x % 10)) (nI y)) (by decide) ⟨by omega, by omega⟩ (Nat.le_of_ble_eq_true rfl) (mm_vs_b (b := 77) rfl (hp_len dy)) (fun v h' hqq => ?_)
              obtain ⟨rfl, hqe⟩ := hqq; rw [hqe]
              exact mm_ri rfl (mm_at ok_Sc_bring (i := 46) rfl).1 ⟨Nat.le_refl _, Nat.le_refl _⟩ (RC_g rfl (CI_child hI (by omega) h3 (by omega) (mm_up_at _ 2 1 _) (mm_up_at _ 6 _ _) (mm_up_at _ 7 _ _) (mm_up_at _ 8 _ _) (by rw [up_off (by omega), up_off (by omega), up_off (by omega), up_off (by omega), mm_up_at]) (fun a j h => by rw [up_off (by omega), up_off (by omega), up_off (by omega), up_off (by omega), up_off (by omega)])) (fun a j h1 h2 => by rw [up_off (by omega), up_off (by omega), up_off (by omega), up_off (by omega), up_off (by omega)]))
      · rw [(hbx (x % 10) h2).resolve_right (by omega)]
        refine mm_I ok_Sc_bring 11 0 21 [some (.ref 0), some (.int (nI x)), some (.int a)] [.int (iz_ none)] (hp_SH ++ dy, g, r) [] rfl trivial rfl rfl (fun _ => ?_) (fun q => False.elim (q rfl))
        refine mm_B ok_Sc_bring 22 1 (44, [some (.ref 0), some (.int (nI x)), some (.int a)], [.int (-2)], (hp_SH ++ dy, g, r)) [] rfl trivial ?_
        exact mm_ri rfl (mm_at ok_Sc_bring (i := 23) rfl).1 ⟨Nat.le_refl _, Nat.le_refl _⟩ (hbad (by unfold ch_; rw [ix_at (show x < 100 by omega) (by decide)]; cases ag_ a with | none => rfl | some y => exact if_neg (by omega)))
    · rw [(hbx (x / 10) h1).resolve_right (by omega)]
      refine mm_I ok_Sc_bring 6 0 11 [some (.ref 0), some (.int (nI x)), some (.int a)] [.int (iz_ none)] (hp_SH ++ dy, g, r) [] rfl trivial rfl rfl (fun _ => ?_) (fun q => False.elim (q rfl))
      refine mm_B ok_Sc_bring 22 1 (44, [some (.ref 0), some (.int (nI x)), some (.int a)], [.int (-2)], (hp_SH ++ dy, g, r)) [] rfl trivial ?_
      exact mm_ri rfl (mm_at ok_Sc_bring (i := 23) rfl).1 ⟨Nat.le_refl _, Nat.le_refl _⟩ (hbad (by unfold ch_; cases hxx : ix_ 100 (nI x) with | none => rfl | some z => (obtain ⟨hz, e⟩ := ix_some (by decide) hxx; have := (nI_eq hx (by omega)).mp e; cases ag_ a with | none => rfl | some y => exact if_neg (by omega))))
theorem cc_child (dy : List mm_Sh) (g : Nat → Nat → Int32) (r : (Nat → Nat → Int64) × Nat × (Nat → Int32)) {A : sA} (hI : CI dy (nr_ g) A) (w a : Int32) : mm_Ct 12 M_Sc_child [.ref 0, .int w, .int a] (hp_SH ++ dy, g, r) 0 0 (RC dy g r (an_child A w a).2 (.int (an_child A w a).1)) := by
  refine mm_start pl_Sc (Nat.le_of_ble_eq_true rfl) ?_
  refine mm_B ok_Sc_child 0 3 (3, [some (.ref 0), some (.int w), some (.int a)], [.int a, .int w, .ref 0], (hp_SH ++ dy, g, r)) [] rfl trivial ?_
  refine mm_cV (as := [.int w, .int a]) (st := []) (q := 0) cw_Sc_bring lk_Sc_90 in_Sc_bring sl_Sc_bring rfl rfl (mm_at ok_Sc_child (i := 3) rfl).1 (cc_bring dy g r hI w a) (by decide) ⟨by omega, by omega⟩ (Nat.le_of_ble_eq_true rfl) (mm_vs_b (b := 77) rfl (hp_len dy)) (fun v h' hqq => ?_)
  obtain ⟨rfl, hqe⟩ := hqq
  exact mm_ri rfl (mm_at ok_Sc_child (i := 4) rfl).1 ⟨Nat.le_refl _, Nat.le_refl _⟩ (⟨rfl, hqe⟩)

