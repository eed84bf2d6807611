/-! ===== calls that change the state: lesson ===== -/
def up_ (f : Nat → Nat) (i v : Nat) : Nat → Nat := fun j => if j = i then v else f j
theorem up_at (f : Nat → Nat) (i v : Nat) : up_ f i v i = v := if_pos rfl
theorem up_no {f : Nat → Nat} {i v j : Nat} (h : j ≠ i) : up_ f i v j = f j := if_neg h
def nx_lesson (A : sA) (k n q : Nat) : sA := ((A.1.1 + 1, up_ A.1.2.1 A.1.1 k, up_ A.1.2.2.1 A.1.1 n, up_ A.1.2.2.2 A.1.1 q), A.2)
def an_lesson (A : sA) (k n q : Int32) : Int32 × sA := match ix_ 6 k, ix_ 10 n, ix_ (2 ^ A.1.1) q with
  | some k, some n, some q => if A.1.1 = 4 then (-4, A) else (nI A.1.1, nx_lesson A k n q)
  | _, _, _ => (-2, A)
theorem SI_lesson {A : sA} (h : SI A) (k n q : Nat) : SI (nx_lesson A k n q) := by
  obtain ⟨h1, h2⟩ := h
  refine ⟨fun b l hb hl => Nat.lt_succ_of_lt (h1 b l hb hl), ?_⟩
  show iK (nx_lesson A k n q).1 A.2.2.2.1.1 A.2.2.2.2.2.2
  cases hm : A.2.2.2.2.2.2 with
  | none => trivial
  | some m =>
    rw [hm] at h2
    obtain ⟨a1, a2, a3⟩ := h2
    refine ⟨Nat.le_succ_of_le a1, fun l hl => ?_, a3⟩
    show m.1.2.1 l = up_ A.1.2.1 A.1.1 k l ∧ _
    rw [up_no (by omega)]
    exact a2 l hl
theorem CI_lesson {dy : List mm_Sh} {A : sA} {g g' : Nat → Nat → Int32} (hI : CI dy (nr_ g) A) {k n q : Nat} (h4 : A.1.1 < 4) (hk : k < 6) (hn : n < 10) (hq : q < 2 ^ A.1.1) (e0 : g' 2 0 = nI (A.1.1 + 1)) (e3 : g' 3 A.1.1 = nI k) (e4 : g' 4 A.1.1 = nI n) (e5 : g' 5 A.1.1 = nI q) (e25 : g' 25 2 = 0) (hF : ∀ a j, ¬ ((a = 2 ∧ j = 0) ∨ ((a = 3 ∨ a = 4 ∨ a = 5) ∧ j = A.1.1) ∨ (a = 25 ∧ j = 2)) → g' a j = g a j) : CI dy (nr_ g') (nx_lesson A k n q) := by
  obtain ⟨hL, hK, hPl, hX, hB, hS, hIm, hFd, hW⟩ := hI
  have hP : ∀ a j, ¬ ((a = 2 ∧ j = 0) ∨ ((a = 3 ∨ a = 4 ∨ a = 5) ∧ j = A.1.1) ∨ (a = 25 ∧ j = 2)) → nr_ g' a j = nr_ g a j := fun a j h => nr_cong (hF a j h)
  refine ⟨⟨by rw [nr_eq g' rfl]; exact e0, by show A.1.1 + 1 ≤ 4; omega, fun l hl => ?_, fun j hj => by rw [hP 12 j (by omega)]; exact hL.2.2.2 j hj⟩, rl_C_fr hK (fun a j h => hP a j (by omega)), cP_fr hPl (fun a j h => hP a j (by omega)), cX_fr hX (fun a j h => hP a j (by omega)), cB_fr hB (fun a j h => hP a j (by omega)), cS_fr hS (fun a j h => hP a j (by omega)), cI_fr hIm (fun a j h => hP a j (by omega)), Or.inl (by rw [nr_eq g' rfl]; exact e25), wf_P hW (fun a j h => hP a j (by omega))⟩
  show nr_ g' 3 l = nI (up_ A.1.2.1 A.1.1 k l) ∧ up_ A.1.2.1 A.1.1 k l < 6 ∧ nr_ g' 4 l = nI (up_ A.1.2.2.1 A.1.1 n l) ∧ up_ A.1.2.2.1 A.1.1 n l ≤ 9 ∧ nr_ g' 5 l = nI (up_ A.1.2.2.2 A.1.1 q l) ∧ up_ A.1.2.2.2 A.1.1 q l < 2 ^ l
  by_cases e : l = A.1.1
  · rw [e, up_at, up_at, up_at, nr_eq g' rfl, nr_eq g' rfl, nr_eq g' rfl]
    exact ⟨e3, hk, e4, by omega, e5, hq⟩
  · rw [up_no e, up_no e, up_no e, hP 3 l (by omega), hP 4 l (by omega), hP 5 l (by omega)]
    exact hL.2.2.1 l (by have : l < A.1.1 + 1 := hl; omega)
theorem MI_lesson {A : sA} {g g' : Nat → Nat → Int32} (hI : MI (nr_ g) A) {k n q : Nat} (h4 : A.1.1 < 4) (hk : k < 6) (hn : n < 10) (hq : q < 2 ^ A.1.1) (e0 : g' 52 10 = nI (A.1.1 + 1)) (e3 : g' 56 A.1.1 = nI k) (e4 : g' 57 A.1.1 = nI n) (e5 : g' 58 A.1.1 = nI q) (hF : ∀ a j, ¬ ((a = 52 ∧ j = 10) ∨ ((a = 56 ∨ a = 57 ∨ a = 58) ∧ j = A.1.1)) → g' a j = g a j) : MI (nr_ g') (nx_lesson A k n q) := by
  obtain ⟨hL, hK, hPl, hX, hB, hS, hIm⟩ := hI
  have hP : ∀ a j, ¬ ((a = 52 ∧ j = 10) ∨ ((a = 56 ∨ a = 57 ∨ a = 58) ∧ j = A.1.1)) → nr_ g' a j = nr_ g a j := fun a j h => nr_cong (hF a j h)
  refine ⟨⟨by rw [nr_eq g' rfl]; exact e0, by show A.1.1 + 1 ≤ 4; omega, fun l hl => ?_⟩, rl_CM_fr hK (fun a j h => hP a j (by omega)), dP_fr hPl (fun j => hP 62 j (by omega)), dX_fr hX (fun a j h => hP a j (by omega)), dB_fr hB (fun a j h => hP a j (by omega)), dS_fr hS (fun a j h => hP a j (by omega)), dI_fr hIm (fun a j h => hP a j (by omega))⟩
  show nr_ g' 56 l = nI (up_ A.1.2.1 A.1.1 k l) ∧ up_ A.1.2.1 A.1.1 k l < 6 ∧ nr_ g' 57 l = nI (up_ A.1.2.2.1 A.1.1 n l) ∧ up_ A.1.2.2.1 A.1.1 n l ≤ 9 ∧ nr_ g' 58 l = nI (up_ A.1.2.2.2 A.1.1 q l) ∧ up_ A.1.2.2.2 A.1.1 q l < 2 ^ l
  by_cases e : l = A.1.1
  · rw [e, up_at, up_at, up_at, nr_eq g' rfl, nr_eq g' rfl, nr_eq g' rfl]
    exact ⟨e3, hk, e4, by omega, e5, hq⟩
  · rw [up_no e, up_no e, up_no e, hP 56 l (by omega), hP 57 l (by omega), hP 58 l (by omega)]
    exact hL.2.2 l (by have : l < A.1.1 + 1 := hl; omega)
theorem up_off {g : Nat → Nat → Int32} {k i a j : Nat} {v : Int32} (h : ¬ (a = k ∧ j = i)) : mm_up g k i v a j = g a j := by
  by_cases e : a = k
  · subst e
    exact mm_up_no (fun q => h ⟨rfl, q⟩)
  · rw [mm_up_ne e]
theorem ct_Se_forget (dy : List mm_Sh) (g : Nat → Nat → Int32) (r : (Nat → Nat → Int64) × Nat × (Nat → Int32)) : mm_Ct 1 M_Se_forget [.ref 25] (hp_SH ++ dy, g, r) 0 0 (fun v h' => v = none ∧ h' = (hp_SH ++ dy, mm_up g 25 2 0, r)) := by
  refine mm_start pl_Se (Nat.le_of_ble_eq_true rfl) ?_
  refine mm_B ok_Se_forget 0 3 (5, [some (.ref 25)], [], (hp_SH ++ dy, mm_up g 25 2 0, r)) [(0 : Int32) = 0 ∨ (0 : Int32) = 1] rfl (show (0 : Int32) = 0 ∨ (0 : Int32) = 1 from (by first | exact mm_vi rfl | assumption | decide)) ?_
  exact mm_r0 rfl (mm_at ok_Se_forget (i := 3) rfl).1 ⟨Nat.le_refl _, Nat.le_refl _⟩ (⟨rfl, rfl⟩)
theorem ct_Bo_addLesson (dy : List mm_Sh) (g : Nat → Nat → Int32) (r : (Nat → Nat → Int64) × Nat × (Nat → Int32)) {n : Nat} (e : g 2 0 = nI n) (hn : n < 4) (x y z : Int32) : mm_Ct 1 M_Bo_addLesson [.ref 2, .int x, .int y, .int z] (hp_SH ++ dy, g, r) 0 0 (fun v h' => v = some (.int (nI n)) ∧ h' = (hp_SH ++ dy, mm_up (mm_up (mm_up (mm_up g 3 n x) 4 n y) 5 n z) 2 0 (nI (n + 1)), r)) := by
  refine mm_start pl_Bo (Nat.le_of_ble_eq_true rfl) ?_
  have hv : vp_in (g 2 0) 4 := by rw [e]; exact nI_vi hn (by decide)
  refine mm_B ok_Bo_addLesson 0 28 (46, [some (.ref 2), some (.int x), some (.int y), some (.int z)], [.int (((g 2 0) + 1) - 1)], (hp_SH ++ dy, mm_up (mm_up (mm_up (mm_up g 3 ((g 2 0).toNatClampNeg) x) 4 ((g 2 0).toNatClampNeg) y) 5 ((g 2 0).toNatClampNeg) z) 2 0 ((g 2 0) + 1), r)) [vp_in (g 2 0) 4, vp_in (g 2 0) 4, vp_in (g 2 0) 4] rfl (show (vp_in (g 2 0) 4) ∧ (vp_in (g 2 0) 4) ∧ (vp_in (g 2 0) 4) from ⟨hv, hv, hv⟩) ?_
  exact mm_ri rfl (mm_at ok_Bo_addLesson (i := 28) rfl).1 ⟨Nat.le_refl _, Nat.le_refl _⟩ (⟨by rw [e, nI_1, nI_pred], by rw [e, nI_1, nI_clamp (by omega)]⟩)
theorem cc_lesson (dy : List mm_Sh) (g : Nat → Nat → Int32) (r : (Nat → Nat → Int64) × Nat × (Nat → Int32)) {A : sA} (hI : CI dy (nr_ g) A) (hSI : SI A) (k n q : Int32) : mm_Ct 12 M_Sc_lesson [.ref 0, .int k, .int n, .int q] (hp_SH ++ dy, g, r) 0 0 (RC dy g r (an_lesson A k n q).2 (.int (an_lesson A k n q).1)) := by
  have hI' := hI
  obtain ⟨hL, hK, hPl, hX, hB, hS, hIm, hFd, hW⟩ := hI'
  have hR := cX_R hX
  have h4 := hL.2.1
  have h16 := p2_16 h4
  have h6 := hK.2.1
  have e20 : g 2 0 = nI A.1.1 := by rw [← nr_eq g (k := 2) (j := 0) rfl]; exact hL.1
  have e21 : g 2 1 = nI A.2.1.1 := by rw [← nr_eq g (k := 2) (j := 1) rfl]; exact hK.1
  have hpa : (hp_SH ++ dy)[9]? = some (.inl (0, 6)) := (hp_at dy (by decide)).trans rfl
  have hpl : ∀ b, b < 6 → g 9 b = pl_c (A.2.2.1.1 b) := fun b hb => by rw [← nr_eq g (k := 9) (j := b) rfl]; exact (hPl b hb).1
  have hot : ∀ b, b < 6 → g 10 b = pl_c (A.2.2.1.2 b) := fun b hb => by rw [← nr_eq g (k := 10) (j := b) rfl]; exact (hPl b hb).2
  have hpo : ∀ b l, b < 6 → A.2.2.1.1 b = some l → l < A.1.1 := fun b l hb h => hSI.1 b l hb (Or.inl h)
  refine mm_start pl_Sc (Nat.le_of_ble_eq_true rfl) ?_
  cases hx1 : ix_ 6 k with
  | none =>
    rw [show an_lesson A k n q = (-2, A) by unfold an_lesson; rw [hx1]]
    refine mm_B ok_Sc_lesson 0 5 (10, [some (.ref 0), some (.int k), some (.int n), some (.int q), some (.ref 2)], [.int k], (hp_SH ++ dy, g, r)) [] rfl trivial ?_
    refine mm_cS (as := [.int k]) (st := []) cw_Sc_isKind lk_Sc_68 sx_Sc_isKind (mm_at ok_Sc_lesson (i := 5) rfl).1 (ct_Sc_isKind (hp_SH ++ dy, g, r) k) (by decide) ⟨by omega, by omega⟩ (Nat.le_of_ble_eq_true rfl) (mm_vs_b (b := 77) rfl (hp_len dy)) (fun v h' hqq => ?_)
    obtain ⟨rfl, hqe⟩ := hqq; rw [hqe]
    rw [kx_ k, hx1]
    refine mm_I ok_Sc_lesson 6 0 13 [some (.ref 0), some (.int k), some (.int n), some (.int q), some (.ref 2)] [.int (iz_ none)] (hp_SH ++ dy, g, r) [] rfl trivial rfl rfl (fun _ => ?_) (fun q => False.elim (q rfl))
    refine mm_B ok_Sc_lesson 15 1 (37, [some (.ref 0), some (.int k), some (.int n), some (.int q), some (.ref 2)], [.int (-2)], (hp_SH ++ dy, g, r)) [] rfl trivial ?_
    exact mm_ri rfl (mm_at ok_Sc_lesson (i := 16) rfl).1 ⟨Nat.le_refl _, Nat.le_refl _⟩ (RC_q rfl hI fr_.rf)
  | some i =>
    obtain ⟨hl1, rfl⟩ := ix_some (by omega) hx1
    cases hx2 : ix_ 10 n with
    | none =>
      rw [show an_lesson A (nI i) n q = (-2, A) by unfold an_lesson; rw [hx1, hx2]]
      refine mm_B ok_Sc_lesson 0 5 (10, [some (.ref 0), some (.int (nI i)), some (.int n), some (.int q), some (.ref 2)], [.int (nI i)], (hp_SH ++ dy, g, r)) [] rfl trivial ?_
      refine mm_cS (as := [.int (nI i)]) (st := []) cw_Sc_isKind lk_Sc_68 sx_Sc_isKind (mm_at ok_Sc_lesson (i := 5) rfl).1 (ct_Sc_isKind (hp_SH ++ dy, g, r) (nI i)) (by decide) ⟨by omega, by omega⟩ (Nat.le_of_ble_eq_true rfl) (mm_vs_b (b := 77) rfl (hp_len dy)) (fun v h' hqq => ?_)
      obtain ⟨rfl, hqe⟩ := hqq; rw [hqe]
      rw [kx_ (nI i), ix_at hl1 (by omega)]
      refine mm_I ok_Sc_lesson 6 0 13 [some (.ref 0), some (.int (nI i)), some (.int n), some (.int q), some (.ref 2)] [.int (iz_ (some i))] (hp_SH ++ dy, g, r) [] rfl trivial rfl rfl (fun q => False.elim (one0 q)) (fun _ => ?_)
      refine mm_B ok_Sc_lesson 7 1 (17, [some (.ref 0), some (.int (nI i)), some (.int n), some (.int q), some (.ref 2)], [.int n], (hp_SH ++ dy, g, r)) [] rfl trivial ?_
      refine mm_cS (as := [.int n]) (st := []) cw_Sc_isNumber lk_Sc_72 sx_Sc_isNumber (mm_at ok_Sc_lesson (i := 8) rfl).1 (ct_Sc_isNumber (hp_SH ++ dy, g, r) n) (by decide) ⟨by omega, by omega⟩ (Nat.le_of_ble_eq_true rfl) (mm_vs_b (b := 77) rfl (hp_len dy)) (fun v h' hqq => ?_)
      obtain ⟨rfl, hqe⟩ := hqq; rw [hqe]
      rw [nx_n n, hx2]
      refine mm_I ok_Sc_lesson 9 0 20 [some (.ref 0), some (.int (nI i)), some (.int n), some (.int q), some (.ref 2)] [.int (iz_ none)] (hp_SH ++ dy, g, r) [] rfl trivial rfl rfl (fun _ => ?_) (fun q => False.elim (q rfl))
      refine mm_B ok_Sc_lesson 15 1 (37, [some (.ref 0), some (.int (nI i)), some (.int n), some (.int q), some (.ref 2)], [.int (-2)], (hp_SH ++ dy, g, r)) [] rfl trivial ?_
      exact mm_ri rfl (mm_at ok_Sc_lesson (i := 16) rfl).1 ⟨Nat.le_refl _, Nat.le_refl _⟩ (RC_q rfl hI fr_.rf)
    | some j =>
      obtain ⟨hl2, rfl⟩ := ix_some (by omega) hx2
      cases hx3 : ix_ (2 ^ A.1.1) q with
      | none =>
        rw [show an_lesson A (nI i) (nI j) q = (-2, A) by unfold an_lesson; rw [hx1, hx2, hx3]]
        refine mm_B ok_Sc_lesson 0 5 (10, [some (.ref 0), some (.int (nI i)), some (.int (nI j)), some (.int q), some (.ref 2)], [.int (nI i)], (hp_SH ++ dy, g, r)) [] rfl trivial ?_
        refine mm_cS (as := [.int (nI i)]) (st := []) cw_Sc_isKind lk_Sc_68 sx_Sc_isKind (mm_at ok_Sc_lesson (i := 5) rfl).1 (ct_Sc_isKind (hp_SH ++ dy, g, r) (nI i)) (by decide) ⟨by omega, by omega⟩ (Nat.le_of_ble_eq_true rfl) (mm_vs_b (b := 77) rfl (hp_len dy)) (fun v h' hqq => ?_)
        obtain ⟨rfl, hqe⟩ := hqq; rw [hqe]
        rw [kx_ (nI i), ix_at hl1 (by omega)]
        refine mm_I ok_Sc_lesson 6 0 13 [some (.ref 0), some (.int (nI i)), some (.int (nI j)), some (.int q), some (.ref 2)] [.int (iz_ (some i))] (hp_SH ++ dy, g, r) [] rfl trivial rfl rfl (fun q => False.elim (one0 q)) (fun _ => ?_)
        refine mm_B ok_Sc_lesson 7 1 (17, [some (.ref 0), some (.int (nI i)), some (.int (nI j)), some (.int q), some (.ref 2)], [.int (nI j)], (hp_SH ++ dy, g, r)) [] rfl trivial ?_
        refine mm_cS (as := [.int (nI j)]) (st := []) cw_Sc_isNumber lk_Sc_72 sx_Sc_isNumber (mm_at ok_Sc_lesson (i := 8) rfl).1 (ct_Sc_isNumber (hp_SH ++ dy, g, r) (nI j)) (by decide) ⟨by omega, by omega⟩ (Nat.le_of_ble_eq_true rfl) (mm_vs_b (b := 77) rfl (hp_len dy)) (fun v h' hqq => ?_)
        obtain ⟨rfl, hqe⟩ := hqq; rw [hqe]
        rw [nx_n (nI j), ix_at hl2 (by omega)]
        refine mm_I ok_Sc_lesson 9 0 20 [some (.ref 0), some (.int (nI i)), some (.int (nI j)), some (.int q), some (.ref 2)] [.int (iz_ (some j))] (hp_SH ++ dy, g, r) [] rfl trivial rfl rfl (fun q => False.elim (one0 q)) (fun _ => ?_)
        refine mm_B ok_Sc_lesson 10 3 (29, [some (.ref 0), some (.int (nI i)), some (.int (nI j)), some (.int q), some (.ref 2)], [.int (g 2 0), .int q], (hp_SH ++ dy, g, r)) [] rfl trivial ?_
        rw [e20]
        refine mm_cS (as := [.int q, .int (nI A.1.1)]) (st := []) cw_Sc_areLessons lk_Sc_79 sx_Sc_areLessons (mm_at ok_Sc_lesson (i := 13) rfl).1 (ct_Sc_areLessons (hp_SH ++ dy, g, r) q (nI A.1.1)) (by decide) ⟨by omega, by omega⟩ (Nat.le_of_ble_eq_true rfl) (mm_vs_b (b := 77) rfl (hp_len dy)) (fun v h' hqq => ?_)
        obtain ⟨rfl, hqe⟩ := hqq; rw [hqe]
        rw [ar_ok (show A.1.1 ≤ 4 by omega) q, hx3]
        refine mm_I ok_Sc_lesson 14 0 32 [some (.ref 0), some (.int (nI i)), some (.int (nI j)), some (.int q), some (.ref 2)] [.int (iz_ none)] (hp_SH ++ dy, g, r) [] rfl trivial rfl rfl (fun q => False.elim (q rfl)) (fun _ => ?_)
        refine mm_B ok_Sc_lesson 15 1 (37, [some (.ref 0), some (.int (nI i)), some (.int (nI j)), some (.int q), some (.ref 2)], [.int (-2)], (hp_SH ++ dy, g, r)) [] rfl trivial ?_
        exact mm_ri rfl (mm_at ok_Sc_lesson (i := 16) rfl).1 ⟨Nat.le_refl _, Nat.le_refl _⟩ (RC_q rfl hI fr_.rf)
      | some b =>
        obtain ⟨hl3, rfl⟩ := ix_some (by omega) hx3
        rw [show an_lesson A (nI i) (nI j) (nI b) = if A.1.1 = 4 then (-4, A) else (nI A.1.1, nx_lesson A i j b) from by unfold an_lesson; rw [hx1, hx2, hx3]]
        refine mm_B ok_Sc_lesson 0 5 (10, [some (.ref 0), some (.int (nI i)), some (.int (nI j)), some (.int (nI b)), some (.ref 2)], [.int (nI i)], (hp_SH ++ dy, g, r)) [] rfl trivial ?_
        refine mm_cS (as := [.int (nI i)]) (st := []) cw_Sc_isKind lk_Sc_68 sx_Sc_isKind (mm_at ok_Sc_lesson (i := 5) rfl).1 (ct_Sc_isKind (hp_SH ++ dy, g, r) (nI i)) (by decide) ⟨by omega, by omega⟩ (Nat.le_of_ble_eq_true rfl) (mm_vs_b (b := 77) rfl (hp_len dy)) (fun v h' hqq => ?_)
        obtain ⟨rfl, hqe⟩ := hqq; rw [hqe]
        rw [kx_ (nI i), ix_at hl1 (by omega)]
        refine mm_I ok_Sc_lesson 6 0 13 [some (.ref 0), some (.int (nI i)), some (.int (nI j)), some (.int (nI b)), some (.ref 2)] [.int (iz_ (some i))] (hp_SH ++ dy, g, r) [] rfl trivial rfl rfl (fun q => False.elim (one0 q)) (fun _ => ?_)
        refine mm_B ok_Sc_lesson 7 1 (17, [some (.ref 0), some (.int (nI i)), some (.int (nI j)), some (.int (nI b)), some (.ref 2)], [.int (nI j)], (hp_SH ++ dy, g, r)) [] rfl trivial ?_
        refine mm_cS (as := [.int (nI j)]) (st := []) cw_Sc_isNumber lk_Sc_72 sx_Sc_isNumber (mm_at ok_Sc_lesson (i := 8) rfl).1 (ct_Sc_isNumber (hp_SH ++ dy, g, r) (nI j)) (by decide) ⟨by omega, by omega⟩ (Nat.le_of_ble_eq_true rfl) (mm_vs_b (b := 77) rfl (hp_len dy)) (fun v h' hqq => ?_)
        obtain ⟨rfl, hqe⟩ := hqq; rw [hqe]
        rw [nx_n (nI j), ix_at hl2 (by omega)]
        refine mm_I ok_Sc_lesson 9 0 20 [some (.ref 0), some (.int (nI i)), some (.int (nI j)), some (.int (nI b)), some (.ref 2)] [.int (iz_ (some j))] (hp_SH ++ dy, g, r) [] rfl trivial rfl rfl (fun q => False.elim (one0 q)) (fun _ => ?_)
        refine mm_B ok_Sc_lesson 10 3 (29, [some (.ref 0), some (.int (nI i)), some (.int (nI j)), some (.int (nI b)), some (.ref 2)], [.int (g 2 0), .int (nI b)], (hp_SH ++ dy, g, r)) [] rfl trivial ?_
        rw [e20]
        refine mm_cS (as := [.int (nI b), .int (nI A.1.1)]) (st := []) cw_Sc_areLessons lk_Sc_79 sx_Sc_areLessons (mm_at ok_Sc_lesson (i := 13) rfl).1 (ct_Sc_areLessons (hp_SH ++ dy, g, r) (nI b) (nI A.1.1)) (by decide) ⟨by omega, by omega⟩ (Nat.le_of_ble_eq_true rfl) (mm_vs_b (b := 77) rfl (hp_len dy)) (fun v h' hqq => ?_)
        obtain ⟨rfl, hqe⟩ := hqq; rw [hqe]
        rw [ar_ok (show A.1.1 ≤ 4 by omega) (nI b), ix_at hl3 (by omega)]
        refine mm_I ok_Sc_lesson 14 0 32 [some (.ref 0), some (.int (nI i)), some (.int (nI j)), some (.int (nI b)), some (.ref 2)] [.int (iz_ (some b))] (hp_SH ++ dy, g, r) [] rfl trivial rfl rfl (fun _ => ?_) (fun q => False.elim (one0 q))
        refine mm_B ok_Sc_lesson 17 3 (44, [some (.ref 0), some (.int (nI i)), some (.int (nI j)), some (.int (nI b)), some (.ref 2)], [.int 4, .int (g 2 0)], (hp_SH ++ dy, g, r)) [] rfl trivial ?_
        rw [e20]
        by_cases hc : A.1.1 = 4
        · rw [if_pos hc]
          refine mm_I ok_Sc_lesson 20 0 44 [some (.ref 0), some (.int (nI i)), some (.int (nI j)), some (.int (nI b)), some (.ref 2)] [.int 4, .int (nI A.1.1)] (hp_SH ++ dy, g, r) [] rfl trivial rfl rfl (fun q => False.elim (absurd (hc ▸ q : nI 4 < 4) (by decide))) (fun _ => ?_)
          refine mm_B ok_Sc_lesson 21 1 (49, [some (.ref 0), some (.int (nI i)), some (.int (nI j)), some (.int (nI b)), some (.ref 2)], [.int (-4)], (hp_SH ++ dy, g, r)) [] rfl trivial ?_
          exact mm_ri rfl (mm_at ok_Sc_lesson (i := 22) rfl).1 ⟨Nat.le_refl _, Nat.le_refl _⟩ (RC_q rfl hI fr_.rf)
        · rw [if_neg hc]
          refine mm_I ok_Sc_lesson 20 0 44 [some (.ref 0), some (.int (nI i)), some (.int (nI j)), some (.int (nI b)), some (.ref 2)] [.int 4, .int (nI A.1.1)] (hp_SH ++ dy, g, r) [] rfl trivial rfl rfl (fun _ => ?_) (fun q => False.elim (q (nI_lt (b := 4) (by omega) (by decide))))
          refine mm_B ok_Sc_lesson 23 2 (54, [some (.ref 0), some (.int (nI i)), some (.int (nI j)), some (.int (nI b)), some (.ref 2)], [.ref 25], (hp_SH ++ dy, g, r)) [] rfl trivial ?_
          refine mm_cV (as := []) (st := []) (q := 25) cw_Se_forget lk_Sc_83 in_Se_forget sl_Se_forget rfl rfl (mm_at ok_Sc_lesson (i := 25) rfl).1 (ct_Se_forget dy g r) (by decide) ⟨by omega, by omega⟩ (Nat.le_of_ble_eq_true rfl) (mm_vs_b (b := 77) rfl (hp_len dy)) (fun v h' hqq => ?_)
          obtain ⟨rfl, hqe⟩ := hqq; rw [hqe]
          refine mm_B ok_Sc_lesson 26 4 (62, [some (.ref 0), some (.int (nI i)), some (.int (nI j)), some (.int (nI b)), some (.ref 2)], [.int (nI b), .int (nI j), .int (nI i), .ref 2], (hp_SH ++ dy, mm_up g 25 2 0, r)) [] rfl trivial ?_
          refine mm_cV (as := [.int (nI i), .int (nI j), .int (nI b)]) (st := []) (q := 2) cw_Bo_addLesson lk_Sc_86 in_Bo_addLesson sl_Bo_addLesson rfl rfl (mm_at ok_Sc_lesson (i := 30) rfl).1 (ct_Bo_addLesson dy (mm_up g 25 2 0) r (n := A.1.1) e20 (by omega) (nI i) (nI j) (nI b)) (by decide) ⟨by omega, by omega⟩ (Nat.le_of_ble_eq_true rfl) (mm_vs_b (b := 77) rfl (hp_len dy)) (fun v h' hqq => ?_)
          obtain ⟨rfl, hqe⟩ := hqq; rw [hqe]
          exact mm_ri rfl (mm_at ok_Sc_lesson (i := 31) rfl).1 ⟨Nat.le_refl _, Nat.le_refl _⟩ (RC_g rfl (CI_lesson hI (by omega) hl1 hl2 hl3 (mm_up_at _ 2 0 _) (mm_up_at _ 3 _ _) (mm_up_at _ 4 _ _) (mm_up_at _ 5 _ _) (by rw [up_off (by omega), up_off (by omega), up_off (by omega), up_off (by omega), mm_up_at]) (fun a j h => by rw [up_off (by omega), up_off (by omega), up_off (by omega), up_off (by omega), up_off (by omega)])) (fun a j h1 h2 => by rw [up_off (by omega), up_off (by omega), up_off (by omega), up_off (by omega), up_off (by omega)]))
theorem cm_lesson (dy : List mm_Sh) (g : Nat → Nat → Int32) (r : (Nat → Nat → Int64) × Nat × (Nat → Int32)) {A : sA} (hI : MI (nr_ g) A) (hSI : SI A) (k n q : Int32) : mm_Ct 12 M_Mo_lesson [.ref 52, .int k, .int n, .int q] (hp_SH ++ dy, g, r) 0 0 (RM dy g r (an_lesson A k n q).2 (.int (an_lesson A k n q).1)) := by
  have hI' := hI
  obtain ⟨hL, hK, hPl, hX, hB, hS, hIm⟩ := hI'
  have hR := dX_R hX
  have h4 := hL.2.1
  have h16 := p2_16 h4
  have h6 := hK.2.1
  have e10 : g 52 10 = nI A.1.1 := by rw [← nr_eq g (k := 52) (j := 10) rfl]; exact hL.1
  have e14 : g 52 14 = nI A.2.1.1 := by rw [← nr_eq g (k := 52) (j := 14) rfl]; exact hK.1
  have hpl : ∀ b, b < 6 → g 62 b = pl_c (A.2.2.1.1 b) := fun b hb => by rw [← nr_eq g (k := 62) (j := b) rfl]; exact (hPl b hb).1
  have hot : ∀ b, b < 6 → g 62 (6 + b) = pl_c (A.2.2.1.2 b) := fun b hb => by rw [← nr_eq g (k := 62) (j := 6 + b) rfl]; exact (hPl b hb).2
  have hpo : ∀ b l, b < 6 → A.2.2.1.1 b = some l → l < A.1.1 := fun b l hb h => hSI.1 b l hb (Or.inl h)
  refine mm_start pl_Mo (Nat.le_of_ble_eq_true rfl) ?_
  cases hx1 : ix_ 6 k with
  | none =>
    rw [show an_lesson A k n q = (-2, A) by unfold an_lesson; rw [hx1]]
    refine mm_B ok_Mo_lesson 0 4 (6, [some (.ref 52), some (.int k), some (.int n), some (.int q)], [.long 5, .long 0, .long (k).toInt64], (hp_SH ++ dy, g, r)) [] rfl trivial ?_
    refine mm_cS (as := [.long (k).toInt64, .long 0, .long 5]) (st := []) cw_Mo_in lk_Mo_100 sx_Mo_in (mm_at ok_Mo_lesson (i := 4) rfl).1 (ct_Mo_in (hp_SH ++ dy, g, r) k.toInt64 0 5) (by decide) ⟨by omega, by omega⟩ (Nat.le_of_ble_eq_true rfl) (mm_vs_b (b := 77) rfl (hp_len dy)) (fun v h' hqq => ?_)
    obtain ⟨rfl, hqe⟩ := hqq; rw [hqe]
    rw [in_6 k, hx1]
    refine mm_I ok_Mo_lesson 5 0 9 [some (.ref 52), some (.int k), some (.int n), some (.int q)] [.int (iz_ none)] (hp_SH ++ dy, g, r) [] rfl trivial rfl rfl (fun _ => ?_) (fun q => False.elim (q rfl))
    refine mm_B ok_Mo_lesson 24 1 (44, [some (.ref 52), some (.int k), some (.int n), some (.int q)], [.int (-2)], (hp_SH ++ dy, g, r)) [] rfl trivial ?_
    exact mm_ri rfl (mm_at ok_Mo_lesson (i := 25) rfl).1 ⟨Nat.le_refl _, Nat.le_refl _⟩ (RM_q rfl hI fr_.rf)
  | some i =>
    obtain ⟨hl1, rfl⟩ := ix_some (by omega) hx1
    cases hx2 : ix_ 10 n with
    | none =>
      rw [show an_lesson A (nI i) n q = (-2, A) by unfold an_lesson; rw [hx1, hx2]]
      refine mm_B ok_Mo_lesson 0 4 (6, [some (.ref 52), some (.int (nI i)), some (.int n), some (.int q)], [.long 5, .long 0, .long ((nI i)).toInt64], (hp_SH ++ dy, g, r)) [] rfl trivial ?_
      refine mm_cS (as := [.long ((nI i)).toInt64, .long 0, .long 5]) (st := []) cw_Mo_in lk_Mo_100 sx_Mo_in (mm_at ok_Mo_lesson (i := 4) rfl).1 (ct_Mo_in (hp_SH ++ dy, g, r) (nI i).toInt64 0 5) (by decide) ⟨by omega, by omega⟩ (Nat.le_of_ble_eq_true rfl) (mm_vs_b (b := 77) rfl (hp_len dy)) (fun v h' hqq => ?_)
      obtain ⟨rfl, hqe⟩ := hqq; rw [hqe]
      rw [in_6 (nI i), ix_at hl1 (by omega)]
      refine mm_I ok_Mo_lesson 5 0 9 [some (.ref 52), some (.int (nI i)), some (.int n), some (.int q)] [.int (iz_ (some i))] (hp_SH ++ dy, g, r) [] rfl trivial rfl rfl (fun q => False.elim (one0 q)) (fun _ => ?_)
      refine mm_B ok_Mo_lesson 6 4 (18, [some (.ref 52), some (.int (nI i)), some (.int n), some (.int q)], [.long 9, .long 0, .long (n).toInt64], (hp_SH ++ dy, g, r)) [] rfl trivial ?_
      refine mm_cS (as := [.long (n).toInt64, .long 0, .long 9]) (st := []) cw_Mo_in lk_Mo_100 sx_Mo_in (mm_at ok_Mo_lesson (i := 10) rfl).1 (ct_Mo_in (hp_SH ++ dy, g, r) n.toInt64 0 9) (by decide) ⟨by omega, by omega⟩ (Nat.le_of_ble_eq_true rfl) (mm_vs_b (b := 77) rfl (hp_len dy)) (fun v h' hqq => ?_)
      obtain ⟨rfl, hqe⟩ := hqq; rw [hqe]
      rw [in_10 n, hx2]
      refine mm_I ok_Mo_lesson 11 0 21 [some (.ref 52), some (.int (nI i)), some (.int n), some (.int q)] [.int (iz_ none)] (hp_SH ++ dy, g, r) [] rfl trivial rfl rfl (fun _ => ?_) (fun q => False.elim (q rfl))
      refine mm_B ok_Mo_lesson 24 1 (44, [some (.ref 52), some (.int (nI i)), some (.int n), some (.int q)], [.int (-2)], (hp_SH ++ dy, g, r)) [] rfl trivial ?_
      exact mm_ri rfl (mm_at ok_Mo_lesson (i := 25) rfl).1 ⟨Nat.le_refl _, Nat.le_refl _⟩ (RM_q rfl hI fr_.rf)
    | some j =>
      obtain ⟨hl2, rfl⟩ := ix_some (by omega) hx2
      cases hx3 : ix_ (2 ^ A.1.1) q with
      | none =>
        rw [show an_lesson A (nI i) (nI j) q = (-2, A) by unfold an_lesson; rw [hx1, hx2, hx3]]
        refine mm_B ok_Mo_lesson 0 4 (6, [some (.ref 52), some (.int (nI i)), some (.int (nI j)), some (.int q)], [.long 5, .long 0, .long ((nI i)).toInt64], (hp_SH ++ dy, g, r)) [] rfl trivial ?_
        refine mm_cS (as := [.long ((nI i)).toInt64, .long 0, .long 5]) (st := []) cw_Mo_in lk_Mo_100 sx_Mo_in (mm_at ok_Mo_lesson (i := 4) rfl).1 (ct_Mo_in (hp_SH ++ dy, g, r) (nI i).toInt64 0 5) (by decide) ⟨by omega, by omega⟩ (Nat.le_of_ble_eq_true rfl) (mm_vs_b (b := 77) rfl (hp_len dy)) (fun v h' hqq => ?_)
        obtain ⟨rfl, hqe⟩ := hqq; rw [hqe]
        rw [in_6 (nI i), ix_at hl1 (by omega)]
        refine mm_I ok_Mo_lesson 5 0 9 [some (.ref 52), some (.int (nI i)), some (.int (nI j)), some (.int q)] [.int (iz_ (some i))] (hp_SH ++ dy, g, r) [] rfl trivial rfl rfl (fun q => False.elim (one0 q)) (fun _ => ?_)
        refine mm_B ok_Mo_lesson 6 4 (18, [some (.ref 52), some (.int (nI i)), some (.int (nI j)), some (.int q)], [.long 9, .long 0, .long ((nI j)).toInt64], (hp_SH ++ dy, g, r)) [] rfl trivial ?_
        refine mm_cS (as := [.long ((nI j)).toInt64, .long 0, .long 9]) (st := []) cw_Mo_in lk_Mo_100 sx_Mo_in (mm_at ok_Mo_lesson (i := 10) rfl).1 (ct_Mo_in (hp_SH ++ dy, g, r) (nI j).toInt64 0 9) (by decide) ⟨by omega, by omega⟩ (Nat.le_of_ble_eq_true rfl) (mm_vs_b (b := 77) rfl (hp_len dy)) (fun v h' hqq => ?_)
        obtain ⟨rfl, hqe⟩ := hqq; rw [hqe]
        rw [in_10 (nI j), ix_at hl2 (by omega)]
        refine mm_I ok_Mo_lesson 11 0 21 [some (.ref 52), some (.int (nI i)), some (.int (nI j)), some (.int q)] [.int (iz_ (some j))] (hp_SH ++ dy, g, r) [] rfl trivial rfl rfl (fun q => False.elim (one0 q)) (fun _ => ?_)
        refine mm_B ok_Mo_lesson 12 10 (36, [some (.ref 52), some (.int (nI i)), some (.int (nI j)), some (.int q)], [.long (((1 <<< ((g 52 10) &&& 31)) - 1)).toInt64, .long 0, .long (q).toInt64], (hp_SH ++ dy, g, r)) [] rfl trivial ?_
        rw [e10, ev6' _ (show A.1.1 ≤ 6 by omega)]
        refine mm_cS (as := [.long (q).toInt64, .long 0, .long (((nI (2 ^ A.1.1)) - 1)).toInt64]) (st := []) cw_Mo_in lk_Mo_100 sx_Mo_in (mm_at ok_Mo_lesson (i := 22) rfl).1 (ct_Mo_in (hp_SH ++ dy, g, r) q.toInt64 0 (nI (2 ^ A.1.1) - 1).toInt64) (by decide) ⟨by omega, by omega⟩ (Nat.le_of_ble_eq_true rfl) (mm_vs_b (b := 77) rfl (hp_len dy)) (fun v h' hqq => ?_)
        obtain ⟨rfl, hqe⟩ := hqq; rw [hqe]
        rw [mls_ok (show A.1.1 ≤ 4 by omega) q, hx3]
        refine mm_I ok_Mo_lesson 23 0 39 [some (.ref 52), some (.int (nI i)), some (.int (nI j)), some (.int q)] [.int (iz_ none)] (hp_SH ++ dy, g, r) [] rfl trivial rfl rfl (fun q => False.elim (q rfl)) (fun _ => ?_)
        refine mm_B ok_Mo_lesson 24 1 (44, [some (.ref 52), some (.int (nI i)), some (.int (nI j)), some (.int q)], [.int (-2)], (hp_SH ++ dy, g, r)) [] rfl trivial ?_
        exact mm_ri rfl (mm_at ok_Mo_lesson (i := 25) rfl).1 ⟨Nat.le_refl _, Nat.le_refl _⟩ (RM_q rfl hI fr_.rf)
      | some b =>
        obtain ⟨hl3, rfl⟩ := ix_some (by omega) hx3
        rw [show an_lesson A (nI i) (nI j) (nI b) = if A.1.1 = 4 then (-4, A) else (nI A.1.1, nx_lesson A i j b) from by unfold an_lesson; rw [hx1, hx2, hx3]]
        refine mm_B ok_Mo_lesson 0 4 (6, [some (.ref 52), some (.int (nI i)), some (.int (nI j)), some (.int (nI b))], [.long 5, .long 0, .long ((nI i)).toInt64], (hp_SH ++ dy, g, r)) [] rfl trivial ?_
        refine mm_cS (as := [.long ((nI i)).toInt64, .long 0, .long 5]) (st := []) cw_Mo_in lk_Mo_100 sx_Mo_in (mm_at ok_Mo_lesson (i := 4) rfl).1 (ct_Mo_in (hp_SH ++ dy, g, r) (nI i).toInt64 0 5) (by decide) ⟨by omega, by omega⟩ (Nat.le_of_ble_eq_true rfl) (mm_vs_b (b := 77) rfl (hp_len dy)) (fun v h' hqq => ?_)
        obtain ⟨rfl, hqe⟩ := hqq; rw [hqe]
        rw [in_6 (nI i), ix_at hl1 (by omega)]
        refine mm_I ok_Mo_lesson 5 0 9 [some (.ref 52), some (.int (nI i)), some (.int (nI j)), some (.int (nI b))] [.int (iz_ (some i))] (hp_SH ++ dy, g, r) [] rfl trivial rfl rfl (fun q => False.elim (one0 q)) (fun _ => ?_)
        refine mm_B ok_Mo_lesson 6 4 (18, [some (.ref 52), some (.int (nI i)), some (.int (nI j)), some (.int (nI b))], [.long 9, .long 0, .long ((nI j)).toInt64], (hp_SH ++ dy, g, r)) [] rfl trivial ?_
        refine mm_cS (as := [.long ((nI j)).toInt64, .long 0, .long 9]) (st := []) cw_Mo_in lk_Mo_100 sx_Mo_in (mm_at ok_Mo_lesson (i := 10) rfl).1 (ct_Mo_in (hp_SH ++ dy, g, r) (nI j).toInt64 0 9) (by decide) ⟨by omega, by omega⟩ (Nat.le_of_ble_eq_true rfl) (mm_vs_b (b := 77) rfl (hp_len dy)) (fun v h' hqq => ?_)
        obtain ⟨rfl, hqe⟩ := hqq; rw [hqe]
        rw [in_10 (nI j), ix_at hl2 (by omega)]
        refine mm_I ok_Mo_lesson 11 0 21 [some (.ref 52), some (.int (nI i)), some (.int (nI j)), some (.int (nI b))] [.int (iz_ (some j))] (hp_SH ++ dy, g, r) [] rfl trivial rfl rfl (fun q => False.elim (one0 q)) (fun _ => ?_)
        refine mm_B ok_Mo_lesson 12 10 (36, [some (.ref 52), some (.int (nI i)), some (.int (nI j)), some (.int (nI b))], [.long (((1 <<< ((g 52 10) &&& 31)) - 1)).toInt64, .long 0, .long ((nI b)).toInt64], (hp_SH ++ dy, g, r)) [] rfl trivial ?_
        rw [e10, ev6' _ (show A.1.1 ≤ 6 by omega)]
        refine mm_cS (as := [.long ((nI b)).toInt64, .long 0, .long (((nI (2 ^ A.1.1)) - 1)).toInt64]) (st := []) cw_Mo_in lk_Mo_100 sx_Mo_in (mm_at ok_Mo_lesson (i := 22) rfl).1 (ct_Mo_in (hp_SH ++ dy, g, r) (nI b).toInt64 0 (nI (2 ^ A.1.1) - 1).toInt64) (by decide) ⟨by omega, by omega⟩ (Nat.le_of_ble_eq_true rfl) (mm_vs_b (b := 77) rfl (hp_len dy)) (fun v h' hqq => ?_)
        obtain ⟨rfl, hqe⟩ := hqq; rw [hqe]
        rw [mls_ok (show A.1.1 ≤ 4 by omega) (nI b), ix_at hl3 (by omega)]
        refine mm_I ok_Mo_lesson 23 0 39 [some (.ref 52), some (.int (nI i)), some (.int (nI j)), some (.int (nI b))] [.int (iz_ (some b))] (hp_SH ++ dy, g, r) [] rfl trivial rfl rfl (fun _ => ?_) (fun q => False.elim (one0 q))
        refine mm_B ok_Mo_lesson 26 3 (50, [some (.ref 52), some (.int (nI i)), some (.int (nI j)), some (.int (nI b))], [.int 4, .int (g 52 10)], (hp_SH ++ dy, g, r)) [] rfl trivial ?_
        rw [e10]
        by_cases hc : A.1.1 = 4
        · rw [if_pos hc]
          refine mm_I ok_Mo_lesson 29 0 50 [some (.ref 52), some (.int (nI i)), some (.int (nI j)), some (.int (nI b))] [.int 4, .int (nI A.1.1)] (hp_SH ++ dy, g, r) [] rfl trivial rfl rfl (fun q => False.elim (q (by rw [hc]; rfl))) (fun _ => ?_)
          refine mm_B ok_Mo_lesson 30 1 (55, [some (.ref 52), some (.int (nI i)), some (.int (nI j)), some (.int (nI b))], [.int (-4)], (hp_SH ++ dy, g, r)) [] rfl trivial ?_
          exact mm_ri rfl (mm_at ok_Mo_lesson (i := 31) rfl).1 ⟨Nat.le_refl _, Nat.le_refl _⟩ (RM_q rfl hI fr_.rf)
        · rw [if_neg hc]
          refine mm_I ok_Mo_lesson 29 0 50 [some (.ref 52), some (.int (nI i)), some (.int (nI j)), some (.int (nI b))] [.int 4, .int (nI A.1.1)] (hp_SH ++ dy, g, r) [] rfl trivial rfl rfl (fun _ => ?_) (fun q => False.elim (hc ((nI_eq (b := 4) (by omega) (by decide)).mp q)))
          refine mm_B ok_Mo_lesson 32 28 (102, [some (.ref 52), some (.int (nI i)), some (.int (nI j)), some (.int (nI b))], [.int (((g 52 10) + 1) - 1)], (hp_SH ++ dy, mm_up (mm_up (mm_up (mm_up g 56 ((g 52 10).toNatClampNeg) (nI i)) 57 ((g 52 10).toNatClampNeg) (nI j)) 58 ((g 52 10).toNatClampNeg) (nI b)) 52 10 ((g 52 10) + 1), r)) [vp_in (g 52 10) 4, vp_in (g 52 10) 4, vp_in (g 52 10) 4] rfl (show (vp_in (g 52 10) 4) ∧ (vp_in (g 52 10) 4) ∧ (vp_in (g 52 10) 4) from ⟨((by rw [e10]; exact nI_vi (show A.1.1 < 4 by omega) (by decide))), ((by rw [e10]; exact nI_vi (show A.1.1 < 4 by omega) (by decide))), ((by rw [e10]; exact nI_vi (show A.1.1 < 4 by omega) (by decide)))⟩) ?_
          rw [e10, nI_1, nI_pred, nI_clamp (show A.1.1 < 2 ^ 31 by omega)]
          exact mm_ri rfl (mm_at ok_Mo_lesson (i := 60) rfl).1 ⟨Nat.le_refl _, Nat.le_refl _⟩ (RM_g rfl (MI_lesson hI (by omega) hl1 hl2 hl3 (mm_up_at _ 52 10 _) (mm_up_at _ 56 _ _) (mm_up_at _ 57 _ _) (mm_up_at _ 58 _ _) (fun a j h => by rw [up_off (by omega), up_off (by omega), up_off (by omega), up_off (by omega)])) (fun a j h1 => by rw [up_off (by omega), up_off (by omega), up_off (by omega), up_off (by omega)]))

