/-! ===== calls that change the state: text ===== -/
theorem tb_tot {x : px_} {k : Nat → List Int32 → Option tr_} (hx : ∃ a, x = some a) (hk : ∀ q c, x = some (.inl (q, c)) → ∃ a, k q c = some a) : ∃ a, tb_ x k = some a := by
  obtain ⟨a, rfl⟩ := hx
  cases a with
  | inl y => exact hk y.1 y.2 rfl
  | inr e => exact ⟨.inr e, rfl⟩
theorem sc_tot {B : Nat → Int32} {n F q : Nat} (key : Int32) (hF : 12 * n + 20 ≤ F) (hq : q ≤ n) : ∃ a, sc_ B n F key q = some a := by
  unfold sc_
  split
  · have hx := nx_ub B hq
    refine pb_tot (ps_tot F 0 0 (nx_ B n q) (Or.inl (by decide)) hx (by rw [if_pos (by decide)]; omega)) (fun q c _ => ?_)
    split
    · exact ⟨_, rfl⟩
    · exact ⟨_, rfl⟩
  · exact ⟨_, rfl⟩
theorem tx_tot (B : Nat → Int32) (n : Nat) : ∃ a, tx_ B n (12 * n + 20) = some a := by
  unfold tx_
  refine tb_tot (sc_tot _ (Nat.le_refl _) (Nat.zero_le _)) (fun q1 c0 h1 => ?_)
  have hq1 := (sc_inv (Nat.zero_le _) h1).2.2
  refine tb_tot (sc_tot _ (Nat.le_refl _) hq1) (fun q2 c1 h2 => ?_)
  have hq2 := (sc_inv hq1 h2).2.2
  refine tb_tot (sc_tot _ (Nat.le_refl _) hq2) (fun q3 c2 h3 => ?_)
  split
  · exact ⟨_, rfl⟩
  · exact ⟨_, rfl⟩
def tl_ (c : List Int32 × List Int32 × List Int32) : Nat → List Int32
  | 0 => c.1
  | 1 => c.2.1
  | _ => c.2.2
def nx_tape (A : sA) : sA := (A.1, A.2.1, A.2.2.1, A.2.2.2.1, (0, A.2.2.2.2.1.2), A.2.2.2.2.2)
def nx_text (A : sA) (c : List Int32 × List Int32 × List Int32) : sA := (A.1, A.2.1, A.2.2.1, (A.2.2.2.1.1 + 1, (fun t => if t = A.2.2.2.1.1 then tl_ c else A.2.2.2.1.2.1 t), A.2.2.2.1.2.2), (0, A.2.2.2.2.1.2), A.2.2.2.2.2)
noncomputable def tp_ (A : sA) : Option tr_ := tx_ A.2.2.2.2.1.2 A.2.2.2.2.1.1 (12 * A.2.2.2.2.1.1 + 20)
noncomputable def an_text (A : sA) : Int32 × sA := if A.2.2.2.1.1 = 6 then (-4, A) else match tp_ A with
  | some (.inl c) => (nI A.2.2.2.1.1, nx_text A c)
  | some (.inr e) => (-100 - nI e, nx_tape A)
  | none => (0, A)
theorem SI_tape {A : sA} (h : SI A) : SI (nx_tape A) := h
theorem SI_text {A : sA} (h : SI A) (c : List Int32 × List Int32 × List Int32) : SI (nx_text A c) := by
  refine ⟨h.1, ?_⟩
  show iK A.1 (A.2.2.2.1.1 + 1) A.2.2.2.2.2.2
  have h3 := h.2
  cases hm : A.2.2.2.2.2.2 with
  | none => trivial
  | some m =>
    rw [hm] at h3
    obtain ⟨a1, a2, a3, a4, a5, a6⟩ := h3
    exact ⟨a1, a2, a3, a4, a5, Nat.lt_succ_of_lt a6⟩
theorem ap_at {dy dy' : List mm_Sh} {k : Nat} {x : mm_Sh} (h : (hp_SH ++ dy)[k]? = some x) : (hp_SH ++ (dy ++ dy'))[k]? = some x := by
  rw [← List.append_assoc, List.getElem?_append_left (List.getElem?_eq_some_iff.mp h).1]
  exact h
theorem ap_lt {dy : List mm_Sh} {k : Nat} {x : mm_Sh} (h : (hp_SH ++ dy)[k]? = some x) : k < (hp_SH ++ dy).length := (List.getElem?_eq_some_iff.mp h).1
theorem rt_A_ap {dy dy' : List mm_Sh} {P P' : Nat → Nat → Int32} {a : Nat} {c : List Int32} (h : rt_A dy P a c) (hF : a < (hp_SH ++ dy).length → ∀ j, P' a j = P a j) : rt_A (dy ++ dy') P' a c := by
  obtain ⟨d1, d2, d3, d4⟩ := h
  exact ⟨ap_at d1, d2, d3, fun i hi => by rw [hF (ap_lt d1)]; exact d4 i hi⟩
theorem nr_77 {k : Nat} (h : 76 < k) (j : Nat) : nr_s k j = false := by
  unfold nr_s
  split <;> first | omega | rfl
/-- the texts behind more cells -/
theorem cX_ap {dy dy' : List mm_Sh} {P P' : Nat → Nat → Int32} {x : sX} (h : cX dy P x) (hF : ∀ k j, k < (hp_SH ++ dy).length → ((k = 1 ∧ j = 2) ∨ (k = 2 ∧ j = 2) ∨ k = 11 ∨ (15 < k ∧ k < 19) ∨ 76 < k) → P' k j = P k j) : cX (dy ++ dy') P' x := by
  have hl := hp_len dy
  obtain ⟨h1, h2, h3, h4, h5⟩ := h
  refine ⟨by rw [hF 1 2 (by omega) (by simp)]; exact h1, h2, by rw [hF 2 2 (by omega) (by simp)]; exact h3, h4, fun t ht => ?_⟩
  obtain ⟨c, c1, c2, a0, a1, a2, c3, ca, d0, d1, d2⟩ := h5 t ht
  have hne : ∀ a, a = a0 ∨ a = a1 ∨ a = a2 → a < (hp_SH ++ dy).length → ∀ j, P' a j = P a j := fun a ha hlt j => hF a j hlt (by have := ca a ha; omega)
  exact ⟨c, by rw [hF 11 t (by omega) (by simp)]; exact c1, c2, a0, a1, a2, ap_at c3, ca, rt_A_ap d0 (hne a0 (Or.inl rfl)), rt_A_ap d1 (hne a1 (Or.inr (Or.inl rfl))), rt_A_ap d2 (hne a2 (Or.inr (Or.inr rfl)))⟩
theorem wf_nr {dy : List mm_Sh} {g : Nat → Nat → Int32} {r r' : (Nat → Nat → Int64) × Nat × (Nat → Int32)} (h : mm_wf (hp_SH ++ dy, g, r)) : mm_wf (hp_SH ++ dy, nr_ g, r') := wf_P h (fun k j hk => by
  rcases hk with rfl | rfl | rfl | hk
  · exact nr_eq g rfl
  · exact nr_eq g rfl
  · exact nr_eq g rfl
  · exact nr_eq g (nr_77 hk j))
theorem wf_rn {dy : List mm_Sh} {g : Nat → Nat → Int32} {r r' : (Nat → Nat → Int64) × Nat × (Nat → Int32)} (h : mm_wf (hp_SH ++ dy, nr_ g, r)) : mm_wf (hp_SH ++ dy, g, r') := wf_P h (fun k j hk => by
  rcases hk with rfl | rfl | rfl | hk
  · exact (nr_eq g rfl).symm
  · exact (nr_eq g rfl).symm
  · exact (nr_eq g rfl).symm
  · exact (nr_eq g (nr_77 hk j)).symm)
theorem f5_no {k j : Nat} (h : ¬ (k = 31 ∨ k = 33)) : f5_ k j = false := by
  unfold f5_ f4_
  rw [beq_false_of_ne (show k ≠ 31 by omega), beq_false_of_ne (show k ≠ 33 by omega)]
  rfl
/-- a reading that fails -/
theorem CI_tape {dy dy' : List mm_Sh} {A : sA} {g g' : Nat → Nat → Int32} (hI : CI dy (nr_ g) A) (h31 : g' 31 1 = 0) (hw : mm_wf (hp_SH ++ (dy ++ dy'), g', ((fun _ _ => 0, 0, fun _ => 0) : (Nat → Nat → Int64) × Nat × (Nat → Int32)))) (hF : ∀ k j, k < (hp_SH ++ dy).length → ¬ (k = 31 ∨ k = 33) → g' k j = g k j) : CI (dy ++ dy') (nr_ g') (nx_tape A) := by
  have hl := hp_len dy
  obtain ⟨hL, hK, hPl, hX, hB, hS, hIm, hFd, hW⟩ := hI
  have hP : ∀ a j, a < (hp_SH ++ dy).length → ¬ (a = 31 ∨ a = 33) → nr_ g' a j = nr_ g a j := fun a j h1 h2 => nr_cong (hF a j h1 h2)
  exact ⟨rl_L_fr hL (fun a j h => hP a j (by omega) (by omega)), rl_C_fr hK (fun a j h => hP a j (by omega) (by omega)), cP_fr hPl (fun a j h => hP a j (by omega) (by omega)), cX_ap hX (fun a j h1 h => hP a j h1 (by omega)), ⟨by rw [nr_eq g' rfl]; exact h31, Nat.zero_le _, fun j hj => absurd hj (Nat.not_lt_zero j)⟩, cS_fr hS (fun a j h => hP a j (by omega) (by omega)), cI_fr hIm (fun a j h => hP a j (by omega) (by omega)), cF_fr hFd (fun a j h => hP a j (by omega) (by omega)), wf_nr hw⟩
/-- a reading that succeeds -/
theorem cX_text {dy dy' : List mm_Sh} {P P' : Nat → Nat → Int32} {x : sX} {c : List Int32 × List Int32 × List Int32} {N : Nat} (hX : cX dy P x) (hN : N = (hp_SH ++ dy).length) (h6 : x.1 < 6) (hN2 : N + 4 < 2 ^ 31) (hdy : dy' = [.inl (0, c.1.length), .inl (0, c.2.1.length), .inl (0, c.2.2.length), .inr (10, [N + 3, N + 1 + 3, N + 2 + 3])]) (h12 : P' 1 2 = nI (x.1 + 1)) (h11 : P' 11 x.1 = nI (N + 3 + 1)) (hc0 : ∀ i, i < c.1.length → P' N i = c.1.getD i 0) (hc1 : ∀ i, i < c.2.1.length → P' (N + 1) i = c.2.1.getD i 0) (hc2 : ∀ i, i < c.2.2.length → P' (N + 2) i = c.2.2.getD i 0) (hle : c.1.length ≤ 155 ∧ c.2.1.length ≤ 155 ∧ c.2.2.length ≤ 155) (hP : ∀ a j, a < N → ¬ (a = 31 ∨ a = 33 ∨ (a = 1 ∧ j = 2) ∨ (a = 11 ∧ j = x.1)) → P' a j = P a j) : cX (dy ++ dy') P' (x.1 + 1, (fun t => if t = x.1 then tl_ c else x.2.1 t), x.2.2) := by
  have hl := hp_len dy
  obtain ⟨x1, x2, x3, x4, x5⟩ := hX
  have hat : ∀ i y, dy'[i]? = some y → (hp_SH ++ (dy ++ dy'))[N + i]? = some y := fun i y h => by
    rw [← List.append_assoc, List.getElem?_append_right (by omega), show N + i - (hp_SH ++ dy).length = i by omega]
    exact h
  have t0 : (hp_SH ++ (dy ++ dy'))[N]? = some (.inl (0, c.1.length)) := hat 0 _ (by rw [hdy]; rfl)
  have t1 : (hp_SH ++ (dy ++ dy'))[N + 1]? = some (.inl (0, c.2.1.length)) := hat 1 _ (by rw [hdy]; rfl)
  have t2 : (hp_SH ++ (dy ++ dy'))[N + 2]? = some (.inl (0, c.2.2.length)) := hat 2 _ (by rw [hdy]; rfl)
  have t3 : (hp_SH ++ (dy ++ dy'))[N + 3]? = some (.inr (10, [N + 3, N + 1 + 3, N + 2 + 3])) := hat 3 _ (by rw [hdy]; rfl)
  have r0 : rt_A (dy ++ dy') P' N c.1 := ⟨t0, hle.1, nr_77 (by omega), hc0⟩
  have r1 : rt_A (dy ++ dy') P' (N + 1) c.2.1 := ⟨t1, hle.2.1, nr_77 (by omega), hc1⟩
  have r2 : rt_A (dy ++ dy') P' (N + 2) c.2.2 := ⟨t2, hle.2.2, nr_77 (by omega), hc2⟩
  have hx1 : x.1 + 1 ≤ 6 := h6
  have hx4 : x.2.2 < x.1 + 1 := by omega
  refine ⟨h12, hx1, (hP 2 2 (by omega) (by omega)).trans x3, hx4, fun t ht => ?_⟩
  by_cases e : t = x.1
  · have hE : (fun t => if t = x.1 then tl_ c else x.2.1 t) t = tl_ c := if_pos e
    have hE0 : (x.1 + 1, (fun t => if t = x.1 then tl_ c else x.2.1 t), x.2.2).2.1 t = tl_ c := hE
    rw [hE0]
    rw [e]
    exact ⟨N + 3, h11, by omega, N, N + 1, N + 2, t3, fun a ha => Or.inr (by omega), r0, r1, r2⟩
  · have ht' : t < x.1 := by have : t < x.1 + 1 := ht; omega
    obtain ⟨q, c1, c2, a0, a1, a2, c3, ca, d0, d1, d2⟩ := x5 t ht'
    have hne : ∀ a, a = a0 ∨ a = a1 ∨ a = a2 → a < (hp_SH ++ dy).length → ∀ j, P' a j = P a j := fun a ha hlt j => hP a j (by omega) (by have := ca a ha; omega)
    have hE0 : (x.1 + 1, (fun t => if t = x.1 then tl_ c else x.2.1 t), x.2.2).2.1 t = x.2.1 t := if_neg e
    rw [hE0]
    exact ⟨q, (hP 11 t (by omega) (by omega)).trans c1, c2, a0, a1, a2, ap_at c3, ca, rt_A_ap d0 (hne a0 (Or.inl rfl)), rt_A_ap d1 (hne a1 (Or.inr (Or.inl rfl))), rt_A_ap d2 (hne a2 (Or.inr (Or.inr rfl)))⟩
theorem CI_text {dy dy' : List mm_Sh} {A : sA} {g g' : Nat → Nat → Int32} {c : List Int32 × List Int32 × List Int32} {N : Nat} (hI : CI dy (nr_ g) A) (hN : N = (hp_SH ++ dy).length) (h6 : A.2.2.2.1.1 < 6) (hN2 : N + 4 < 2 ^ 31) (hdy : dy' = [.inl (0, c.1.length), .inl (0, c.2.1.length), .inl (0, c.2.2.length), .inr (10, [N + 3, N + 1 + 3, N + 2 + 3])]) (h31 : g' 31 1 = 0) (h12 : g' 1 2 = nI (A.2.2.2.1.1 + 1)) (h11 : g' 11 A.2.2.2.1.1 = nI (N + 3 + 1)) (hw : mm_wf (hp_SH ++ (dy ++ dy'), g', ((fun _ _ => 0, 0, fun _ => 0) : (Nat → Nat → Int64) × Nat × (Nat → Int32)))) (hc : (∀ i, i < c.1.length → g' N i = c.1.getD i 0) ∧ (∀ i, i < c.2.1.length → g' (N + 1) i = c.2.1.getD i 0) ∧ ∀ i, i < c.2.2.length → g' (N + 2) i = c.2.2.getD i 0) (hle : c.1.length ≤ 155 ∧ c.2.1.length ≤ 155 ∧ c.2.2.length ≤ 155) (hF : ∀ k j, k < N → ¬ (k = 31 ∨ k = 33 ∨ (k = 1 ∧ j = 2) ∨ (k = 11 ∧ j = A.2.2.2.1.1)) → g' k j = g k j) : CI (dy ++ dy') (nr_ g') (nx_text A c) := by
  have hl := hp_len dy
  obtain ⟨hL, hK, hPl, hX, hB, hS, hIm, hFd, hW⟩ := hI
  have hP : ∀ a j, a < N → ¬ (a = 31 ∨ a = 33 ∨ (a = 1 ∧ j = 2) ∨ (a = 11 ∧ j = A.2.2.2.1.1)) → nr_ g' a j = nr_ g a j := fun a j h1 h2 => nr_cong (hF a j h1 h2)
  have g1 : rl_L A.1 (nr_ g') := rl_L_fr hL (fun a j h => hP a j (by omega) (by omega))
  have g2 : rl_C A.2.1 (nr_ g') := rl_C_fr hK (fun a j h => hP a j (by omega) (by omega))
  have g3 : cP (nr_ g') A.2.2.1 := cP_fr hPl (fun a j h => hP a j (by omega) (by omega))
  have g4 : cX (dy ++ dy') (nr_ g') (A.2.2.2.1.1 + 1, (fun t => if t = A.2.2.2.1.1 then tl_ c else A.2.2.2.1.2.1 t), A.2.2.2.1.2.2) := cX_text hX hN h6 hN2 hdy (by rw [nr_eq g' rfl]; exact h12) (by rw [nr_eq g' rfl]; exact h11) (fun i hi => by rw [nr_eq g' (nr_77 (by omega) i)]; exact hc.1 i hi) (fun i hi => by rw [nr_eq g' (nr_77 (by omega) i)]; exact hc.2.1 i hi) (fun i hi => by rw [nr_eq g' (nr_77 (by omega) i)]; exact hc.2.2 i hi) hle hP
  have g5 : cB (nr_ g') (0, A.2.2.2.2.1.2) := ⟨by rw [nr_eq g' rfl]; exact h31, Nat.zero_le _, fun j hj => absurd hj (Nat.not_lt_zero j)⟩
  have g6 : cS (nr_ g') A.2.2.2.2.2.1 := cS_fr hS (fun a j h => hP a j (by omega) (by omega))
  have g7 : cI (nr_ g') A.1 (A.2.2.2.1.1 + 1) A.2.2.2.2.2.2 := cI_fr hIm (fun a j h => hP a j (by omega) (by omega))
  have hu : (fun t => if t = A.2.2.2.1.1 then tl_ c else A.2.2.2.1.2.1 t) A.2.2.2.1.2.2 = A.2.2.2.1.2.1 A.2.2.2.1.2.2 := if_neg (by have := hX.2.2.2.1; omega)
  have g8 : cF (nr_ g') A.1 ((fun t => if t = A.2.2.2.1.1 then tl_ c else A.2.2.2.1.2.1 t) A.2.2.2.1.2.2) A.2.1 := by
    rw [hu]
    exact cF_fr hFd (fun a j h => hP a j (by omega) (by omega))
  exact ⟨g1, g2, g3, g4, g5, g6, g7, g8, wf_nr hw⟩
theorem wt_text {dy : List mm_Sh} {g : Nat → Nat → Int32} {r r' : (Nat → Nat → Int64) × Nat × (Nat → Int32)} {j q : Nat} {v : Int32} (hw : mm_wf (hp_SH ++ dy, g, r)) (hq : q ≤ (hp_SH ++ dy).length) (h31 : q < 2 ^ 31) : mm_wf (hp_SH ++ dy, mm_up (mm_up g 11 j (nI q)) 1 2 v, r') := by
  intro k c hk
  obtain ⟨w1, w2⟩ := hw k c hk
  refine ⟨fun a ha => (w1 a ha).imp id (fun h i => ?_), w2⟩
  show (mm_up (mm_up g 11 j (nI q)) 1 2 v k i).toNatClampNeg ≤ _
  by_cases e : k = 1 ∧ i = 2
  · rw [e.1] at hk
    have h1 : (hp_SH ++ dy)[1]? = some c := hk
    rw [hp_at dy (by decide)] at h1
    rw [ha] at h1
    cases h1
  · rw [up_off e]
    by_cases e : k = 11 ∧ i = j
    · rw [e.1, e.2, mm_up_at, nI_clamp h31]
      exact hq
    · rw [up_off e]
      exact h i
theorem cc_text (dy : List mm_Sh) (g : Nat → Nat → Int32) (r : (Nat → Nat → Int64) × Nat × (Nat → Int32)) {A : sA} (hI : CI dy (nr_ g) A) (hSI : SI A) (hdy : dy.length ≤ 100000) : mm_Ct 75 M_Sc_text [.ref 0] (hp_SH ++ dy, g, r) 4 483 (RC dy g r (an_text A).2 (.int (an_text A).1)) := by
  have hI' := hI
  obtain ⟨hL, hK, hPl, hX, hB, hS, hIm, hFd, hW⟩ := hI'
  have e12 : g 1 2 = nI A.2.2.2.1.1 := by rw [← nr_eq g (k := 1) (j := 2) rfl]; exact hX.1
  have htc := hX.2.1
  have hl := hp_len dy
  have hl2 : (hp_SH ++ dy).length = 77 + dy.length := by rw [List.length_append]; rfl
  refine mm_start pl_Sc (Nat.le_of_ble_eq_true rfl) ?_
  refine mm_B ok_Sc_text 0 4 (9, [some (.ref 0), none], [.int 6, .int (g 1 2)], (hp_SH ++ dy, g, r)) [] rfl trivial ?_
  rw [e12]
  by_cases hc : A.2.2.2.1.1 = 6
  · rw [show an_text A = (-4, A) from if_pos hc]
    refine mm_I ok_Sc_text 4 0 9 [some (.ref 0), none] [.int 6, .int (nI A.2.2.2.1.1)] (hp_SH ++ dy, g, r) [] rfl trivial rfl rfl (fun q => False.elim (absurd (hc ▸ q : nI 6 < 6) (by decide))) (fun _ => ?_)
    refine mm_B ok_Sc_text 5 1 (14, [some (.ref 0), none], [.int (-4)], (hp_SH ++ dy, g, r)) [] rfl trivial ?_
    exact mm_ri rfl (mm_at ok_Sc_text (i := 6) rfl).1 ⟨by omega, by omega⟩ (RC_q rfl hI fr_.rf)
  · have hc6 : A.2.2.2.1.1 < 6 := by omega
    obtain ⟨res, hres⟩ := tx_tot A.2.2.2.2.1.2 A.2.2.2.2.1.1
    refine mm_I ok_Sc_text 4 0 9 [some (.ref 0), none] [.int 6, .int (nI A.2.2.2.1.1)] (hp_SH ++ dy, g, r) [] rfl trivial rfl rfl (fun _ => ?_) (fun q => False.elim (q (nI_lt (b := 6) (by omega) (by decide))))
    refine mm_B ok_Sc_text 7 2 (19, [some (.ref 0), none], [.ref 31], (hp_SH ++ dy, g, r)) [] rfl trivial ?_
    refine mm_cV (as := []) (st := []) (q := 31) cw_Re_read lk_Sc_157 in_Re_read sl_Re_read rfl rfl (mm_at ok_Sc_text (i := 9) rfl).1 (ct_Re_read dy g (nr_ g) r rfl hB.1 hB.2.1 hB.2.2 (wf_rn hW) hres) (by decide) ⟨by omega, by omega⟩ (Nat.le_of_ble_eq_true rfl) (mm_vs_b (b := 77) rfl (hp_len dy)) (fun v h' hqq => ?_)
    cases res with
    | inr e =>
      rw [show an_text A = (-100 - nI e, nx_tape A) by unfold an_text tp_; rw [if_neg hc, hres]]
      obtain ⟨rfl, dy2, g1, r1, rfl, hd2, hr1, hF1, h31, h312, hw1⟩ := hqq
      have hvs : mm_vs (hp_SH ++ (dy ++ dy2)).length [some (.ref 0), none] [] := mm_vs_b (b := 77) rfl (hp_len _)
      refine mm_I ok_Sc_text 10 2 24 [some (.ref 0), some (.null)] [.null] (hp_SH ++ (dy ++ dy2), g1, r1) [] rfl trivial rfl rfl (fun q => q.elim) (fun _ => ?_)
      refine mm_B ok_Sc_text 13 5 (37, [some (.ref 0), some (.null)], [.int ((-100) - (g1 31 2))], (hp_SH ++ (dy ++ dy2), g1, r1)) [] rfl trivial ?_
      rw [h312]
      exact mm_ri rfl (mm_at ok_Sc_text (i := 18) rfl).1 ⟨by omega, by omega⟩ (⟨rfl, dy2, g1, r1, rfl, hr1, by omega, CI_tape hI h31 hw1 (fun k j h1 h2 => hF1 k j h1 (f5_no h2)), fun k j h1 h2 => hF1 k j (by omega) (f5_no (by omega))⟩)
    | inl c =>
      rw [show an_text A = (nI A.2.2.2.1.1, nx_text A c) by unfold an_text tp_; rw [if_neg hc, hres]]
      obtain ⟨rfl, g1, r1, hqe, hr1, hF1, h31, hcc, hw1, hle⟩ := hqq
      obtain ⟨dy2, hdy2⟩ : ∃ x, x = ([.inl (0, c.1.length), .inl (0, c.2.1.length), .inl (0, c.2.2.length), .inr (10, [(hp_SH ++ dy).length + 3, (hp_SH ++ dy).length + 1 + 3, (hp_SH ++ dy).length + 2 + 3])] : List mm_Sh) := ⟨_, rfl⟩
      rw [← hdy2] at hqe
      subst hqe
      have e12' : g1 1 2 = nI A.2.2.2.1.1 := by rw [hF1 1 2 (by omega) rfl, e12]
      have hat3 : (hp_SH ++ (dy ++ dy2))[(hp_SH ++ dy).length + 3]? = some (.inr (10, [(hp_SH ++ dy).length + 3, (hp_SH ++ dy).length + 1 + 3, (hp_SH ++ dy).length + 2 + 3])) := by
        rw [← List.append_assoc, List.getElem?_append_right (by omega), show (hp_SH ++ dy).length + 3 - (hp_SH ++ dy).length = 3 by omega, hdy2]
        rfl
      have hl3 := ap_lt hat3
      refine mm_I ok_Sc_text 10 2 24 [some (.ref 0), some (.ref ((hp_SH ++ dy).length + 3))] [.ref ((hp_SH ++ dy).length + 3)] (hp_SH ++ (dy ++ dy2), g1, r1) [] rfl trivial rfl rfl (fun _ => ?_) (fun q => q.elim)
      refine mm_B ok_Sc_text 19 7 (53, [some (.ref 0), some (.ref ((hp_SH ++ dy).length + 3))], [.ref ((hp_SH ++ dy).length + 3), .int (g1 1 2), .ref 11], (hp_SH ++ (dy ++ dy2), g1, r1)) [] rfl trivial ?_
      rw [e12']
      refine mm_aast (t := 2) (n := 6) (ci := 10) (Or.inl ⟨rfl, rfl⟩) ((hp_at _ (by decide)).trans rfl) (nI_vi hc6 (by decide)) hat3 (by omega) (mm_at ok_Sc_text (i := 26) rfl).1 ?_
      refine mm_B ok_Sc_text 27 12 (76, [some (.ref 0), some (.ref ((hp_SH ++ dy).length + 3))], [.int (((g1 1 2) + 1) - 1)], (hp_SH ++ (dy ++ dy2), mm_up (mm_up g1 11 ((nI A.2.2.2.1.1).toNatClampNeg) (nI ((hp_SH ++ dy).length + 3 + 1))) 1 2 ((g1 1 2) + 1), r1)) [] rfl trivial ?_
      rw [e12', nI_1, nI_pred, nI_clamp (show A.2.2.2.1.1 < 2 ^ 31 by omega)]
      exact mm_ri rfl (mm_at ok_Sc_text (i := 39) rfl).1 ⟨by omega, by omega⟩ (⟨rfl, dy2, _, r1, rfl, hr1, by rw [hdy2]; exact Nat.le_refl _, CI_text hI rfl hc6 (by omega) hdy2 (by rw [up_off (by omega), up_off (by omega)]; exact h31) (mm_up_at _ 1 2 _) (by rw [up_off (by omega), mm_up_at]) (wt_text hw1 (by omega) (by omega)) ⟨fun i hi => by rw [up_off (by omega), up_off (by omega)]; exact hcc.1 i hi, fun i hi => by rw [up_off (by omega), up_off (by omega)]; exact hcc.2.1 i hi, fun i hi => by rw [up_off (by omega), up_off (by omega)]; exact hcc.2.2 i hi⟩ hle (fun k j h1 h => by rw [up_off (by omega), up_off (by omega)]; exact hF1 k j h1 (f5_no (by omega))), fun k j h1 h2 => by rw [up_off (by omega), up_off (by omega)]; exact hF1 k j (by omega) (f5_no (by omega))⟩)
theorem MI_tape {A : sA} {g g' : Nat → Nat → Int32} (hI : MI (nr_ g) A) (h6 : g' 52 6 = 0) (hF : ∀ k j, nr_s k j = false → ¬ ((k = 52 ∧ j = 6) ∨ (k = 53 ∧ 160 * A.2.2.2.1.1 ≤ j) ∨ (k = 54 ∧ j = A.2.2.2.1.1)) → g' k j = g k j) : MI (nr_ g') (nx_tape A) := by
  obtain ⟨hL, hK, hPl, ⟨x1, x2, x3, x4, x5⟩, hB, hS, hIm⟩ := hI
  have hP : ∀ k j, ¬ ((k = 52 ∧ j = 6) ∨ (k = 53 ∧ 160 * A.2.2.2.1.1 ≤ j) ∨ (k = 54 ∧ j = A.2.2.2.1.1)) → nr_ g' k j = nr_ g k j := fun k j h => by
    cases hs : nr_s k j with
    | true => unfold nr_; rw [hs]; rfl
    | false => exact nr_cong (hF k j hs h)
  refine ⟨rl_LM_fr hL (fun a j h => hP a j (by omega)), rl_CM_fr hK (fun a j h => hP a j (by omega)), dP_fr hPl (fun j => hP 62 j (by omega)), ⟨by rw [hP 52 3 (by omega)]; exact x1, x2, by rw [hP 52 4 (by omega)]; exact x3, x4, fun t ht => ?_⟩, ⟨by rw [nr_eq g' rfl]; exact h6, Nat.zero_le _, fun j hj => absurd hj (Nat.not_lt_zero j)⟩, dS_fr hS (fun a j h => hP a j (by omega)), dI_fr hIm (fun a j h => hP a j (by omega))⟩
  have ht : t < A.2.2.2.1.1 := ht
  obtain ⟨n, F, B, c1, c2, c3, c4⟩ := x5 t ht
  exact ⟨n, F, B, by rw [hP 54 t (by omega)]; exact c1, c2, fun i hi => by rw [hP 53 _ (by omega)]; exact c3 i hi, c4⟩
theorem MI_text {A : sA} {g g' : Nat → Nat → Int32} {c : List Int32 × List Int32 × List Int32} (hI : MI (nr_ g) A) (h6 : A.2.2.2.1.1 < 6) (hc : tp_ A = some (.inl c)) (e6 : g' 52 6 = 0) (e3 : g' 52 3 = nI (A.2.2.2.1.1 + 1)) (e54 : g' 54 A.2.2.2.1.1 = nI A.2.2.2.2.1.1) (e53 : ∀ i, i < A.2.2.2.2.1.1 → g' 53 (160 * A.2.2.2.1.1 + i) = A.2.2.2.2.1.2 i) (hF : ∀ k j, nr_s k j = false → ¬ ((k = 52 ∧ (j = 3 ∨ j = 6)) ∨ (k = 53 ∧ 160 * A.2.2.2.1.1 ≤ j) ∨ (k = 54 ∧ j = A.2.2.2.1.1)) → g' k j = g k j) : MI (nr_ g') (nx_text A c) := by
  obtain ⟨hL, hK, hPl, ⟨x1, x2, x3, x4, x5⟩, hB, hS, hIm⟩ := hI
  have hP : ∀ k j, ¬ ((k = 52 ∧ (j = 3 ∨ j = 6)) ∨ (k = 53 ∧ 160 * A.2.2.2.1.1 ≤ j) ∨ (k = 54 ∧ j = A.2.2.2.1.1)) → nr_ g' k j = nr_ g k j := fun k j h => by
    cases hs : nr_s k j with
    | true => unfold nr_; rw [hs]; rfl
    | false => exact nr_cong (hF k j hs h)
  refine ⟨rl_LM_fr hL (fun a j h => hP a j (by omega)), rl_CM_fr hK (fun a j h => hP a j (by omega)), dP_fr hPl (fun j => hP 62 j (by omega)), ⟨by rw [nr_eq g' rfl]; exact e3, h6, by rw [hP 52 4 (by omega)]; exact x3, Nat.lt_succ_of_lt x4, fun t ht => ?_⟩, ⟨by rw [nr_eq g' rfl]; exact e6, Nat.zero_le _, fun j hj => absurd hj (Nat.not_lt_zero j)⟩, dS_fr hS (fun a j h => hP a j (by omega)), dI_fr hIm (fun a j h => hP a j (by omega))⟩
  by_cases e : t = A.2.2.2.1.1
  · subst e
    refine ⟨A.2.2.2.2.1.1, 12 * A.2.2.2.2.1.1 + 20, A.2.2.2.2.1.2, by rw [nr_eq g' rfl]; exact e54, hB.2.1, fun i hi => ⟨by rw [nr_eq g' rfl]; exact e53 i hi, ?_⟩, ?_⟩
    · have := hB.2.2 i hi
      exact this.2
    · have hE : (nx_text A c).2.2.2.1.2.1 A.2.2.2.1.1 = tl_ c := if_pos rfl
      rw [hE]
      exact hc
  · have ht' : t < A.2.2.2.1.1 := by have : t < A.2.2.2.1.1 + 1 := ht; omega
    obtain ⟨n, F, B, c1, c2, c3, c4⟩ := x5 t ht'
    rw [show (nx_text A c).2.2.2.1.2.1 t = A.2.2.2.1.2.1 t from if_neg e]
    exact ⟨n, F, B, by rw [hP 54 t (by omega)]; exact c1, c2, fun i hi => by rw [hP 53 _ (by omega)]; exact c3 i hi, c4⟩
theorem mh_no {k j : Nat} (h : ¬ k = 52) : mh_ k j = false := by
  unfold mh_ mf_
  rw [beq_false_of_ne h]
  rfl
theorem mtx_go (dy : List mm_Sh) (g : Nat → Nat → Int32) (r : (Nat → Nat → Int64) × Nat × (Nat → Int32)) {A : sA} (hI : MI (nr_ g) A) (h6 : A.2.2.2.1.1 < 6) (hc : ¬ A.2.2.2.1.1 = 6) : ∀ (m k : Nat) (g1 : Nat → Nat → Int32), k + m = A.2.2.2.2.1.1 → (∀ a j, ¬ (a = 53 ∧ 160 * A.2.2.2.1.1 ≤ j) → g1 a j = g a j) → (∀ i, i < k → g1 53 (160 * A.2.2.2.1.1 + i) = A.2.2.2.2.1.2 i) → mm_W 75 M_Mo_text 0 0 (RM dy g r (an_text A).2 (.int (an_text A).1)) 0 0 (14, [some (.ref 52), some (.int (nI k))], [], (hp_SH ++ dy, g1, r)) := by
  have hI' := hI
  obtain ⟨hL, hK, hPl, hX, hB, hS, hIm⟩ := hI'
  have e12 : g 52 3 = nI A.2.2.2.1.1 := by rw [← nr_eq g (k := 52) (j := 3) rfl]; exact hX.1
  have e6 : g 52 6 = nI A.2.2.2.2.1.1 := by rw [← nr_eq g (k := 52) (j := 6) rfl]; exact hB.1
  have hn := hB.2.1
  have e55 : ∀ j, j < A.2.2.2.2.1.1 → g 55 j = A.2.2.2.2.1.2 j ∧ 0 ≤ A.2.2.2.2.1.2 j := fun j hj => by rw [← nr_eq g (k := 55) (j := j) rfl]; exact hB.2.2 j hj
  intro m
  induction m with
  | zero =>
    intro k g1 hk h1 h53
    have hk : k = A.2.2.2.2.1.1 := by omega
    subst hk
    obtain ⟨res, hres⟩ := tx_tot A.2.2.2.2.1.2 A.2.2.2.2.1.1
    refine mm_B ok_Mo_text 8 3 (19, [some (.ref 52), some (.int (nI A.2.2.2.2.1.1))], [.int (g1 52 6), .int (nI A.2.2.2.2.1.1)], (hp_SH ++ dy, g1, r)) [] rfl trivial ?_
    rw [h1 52 6 (by omega), e6]
    refine mm_I ok_Mo_text 11 0 19 [some (.ref 52), some (.int (nI A.2.2.2.2.1.1))] [.int (nI A.2.2.2.2.1.1), .int (nI A.2.2.2.2.1.1)] (hp_SH ++ dy, g1, r) [] rfl trivial rfl rfl (fun _ => ?_) (fun q => False.elim (q (Int32.le_refl _)))
    have e3 : g1 52 3 = nI A.2.2.2.1.1 := by rw [h1 52 3 (by omega)]; exact e12
    refine mm_B ok_Mo_text 27 14 (73, [some (.ref 52), some (.int (nI A.2.2.2.2.1.1))], [.int 0, .int (g1 52 3), .ref 52], (hp_SH ++ dy, mm_up (mm_up g1 54 ((g1 52 3).toNatClampNeg) (g1 52 6)) 52 6 0, r)) [vp_in (g1 52 3) 6] rfl (show vp_in (g1 52 3) 6 from ((by rw [e3]; exact nI_vi h6 (by decide)))) ?_
    rw [e3, nI_clamp (show A.2.2.2.1.1 < 2 ^ 31 by omega), show g1 52 6 = nI A.2.2.2.2.1.1 by rw [h1 52 6 (by omega)]; exact e6]
    obtain ⟨g2, hg2⟩ : ∃ x, x = mm_up (mm_up g1 54 A.2.2.2.1.1 (nI A.2.2.2.2.1.1)) 52 6 0 := ⟨_, rfl⟩
    rw [← hg2]
    have h2 : ∀ a j, ¬ ((a = 52 ∧ j = 6) ∨ (a = 53 ∧ 160 * A.2.2.2.1.1 ≤ j) ∨ (a = 54 ∧ j = A.2.2.2.1.1)) → g2 a j = g a j := fun a j h => by rw [hg2, up_off (by omega), up_off (by omega)]; exact h1 a j (by omega)
    refine mm_cV (as := [.int (nI A.2.2.2.1.1), .int 0]) (st := []) (q := 52) cw_Mo_read lk_Mo_249 in_Mo_read sl_Mo_read rfl rfl (mm_at ok_Mo_text (i := 41) rfl).1 (ct_Mo_read dy g2 r (n := A.2.2.2.2.1.1) (t := A.2.2.2.1.1) (F := 12 * A.2.2.2.2.1.1 + 20) (B := A.2.2.2.2.1.2) (sc := fun i => g2 52 (16 + i)) 0 h6 hn (by rw [hg2, up_off (by omega), mm_up_at]) (fun i hi => ⟨by rw [hg2, up_off (by omega), up_off (by omega)]; exact h53 i hi, (e55 i hi).2⟩) ⟨rfl, rfl, rfl, rfl, rfl, rfl⟩ hres) (by decide) ⟨by omega, by omega⟩ (Nat.le_of_ble_eq_true rfl) (mm_vs_b (b := 77) rfl (hp_len dy)) (fun v h' hqq => ?_)
    skip
    cases res with
    | inl c =>
      rw [show an_text A = (nI A.2.2.2.1.1, nx_text A c) by unfold an_text tp_; rw [if_neg hc, hres]]
      obtain ⟨x, y, z, rfl, -, -, -, g3, r3, hqe, hr3, hF3, h29⟩ := hqq
      rw [hqe]
      refine mm_B ok_Mo_text 42 3 (81, [some (.ref 52), some (.int (wh_ 0 x y z))], [.int (g3 52 29)], (hp_SH ++ dy, g3, r3)) [] rfl trivial ?_
      rw [h29]
      refine mm_I ok_Mo_text 45 0 81 [some (.ref 52), some (.int (wh_ 0 x y z))] [.int 0] (hp_SH ++ dy, g3, r3) [] rfl trivial rfl rfl (fun _ => ?_) (fun q => False.elim (absurd rfl q))
      have e3' : g3 52 3 = nI A.2.2.2.1.1 := by rw [hF3 52 3 rfl, hg2, up_off (by omega), up_off (by omega)]; exact e3
      refine mm_B ok_Mo_text 51 10 (108, [some (.ref 52), some (.int (wh_ 0 x y z))], [.int (((g3 52 3) + 1) - 1)], (hp_SH ++ dy, mm_up g3 52 3 ((g3 52 3) + 1), r3)) [] rfl trivial ?_
      rw [e3', nI_1, nI_pred]
      exact mm_ri rfl (mm_at ok_Mo_text (i := 61) rfl).1 ⟨Nat.le_refl _, Nat.le_refl _⟩ (RM_g hr3 (MI_text hI h6 hres (by rw [up_off (by omega), hF3 52 6 rfl, hg2, mm_up_at]) (mm_up_at _ _ _ _) (by rw [up_off (by omega), hF3 54 _ rfl, hg2, up_off (by omega), mm_up_at]) (fun i hi => by rw [up_off (by omega), hF3 53 _ rfl, hg2, up_off (by omega), up_off (by omega)]; exact h53 i hi) (fun a j hs h => by rw [up_off (by omega), hF3 a j (mh_nr a j hs)]; exact h2 a j (by omega))) (fun a j h => by rw [up_off (by omega), hF3 a j (mh_no (by omega))]; exact h2 a j (by omega)))
    | inr e =>
      rw [show an_text A = (-100 - nI e, nx_tape A) by unfold an_text tp_; rw [if_neg hc, hres]]
      obtain ⟨x, rfl, g3, r3, hqe, hr3, hF3, h29, h30⟩ := hqq
      rw [hqe]
      refine mm_B ok_Mo_text 42 3 (81, [some (.ref 52), some (.int x)], [.int (g3 52 29)], (hp_SH ++ dy, g3, r3)) [] rfl trivial ?_
      rw [h29]
      refine mm_I ok_Mo_text 45 0 81 [some (.ref 52), some (.int x)] [.int 1] (hp_SH ++ dy, g3, r3) [] rfl trivial rfl rfl (fun q => False.elim (absurd q (by decide))) (fun _ => ?_)
      refine mm_B ok_Mo_text 46 4 (91, [some (.ref 52), some (.int x)], [.int ((-100) - (g3 52 30))], (hp_SH ++ dy, g3, r3)) [] rfl trivial ?_
      rw [h30]
      exact mm_ri rfl (mm_at ok_Mo_text (i := 50) rfl).1 ⟨Nat.le_refl _, Nat.le_refl _⟩ (RM_g hr3 (MI_tape hI (by rw [hF3 52 6 rfl, hg2, mm_up_at]) (fun a j hs h => by rw [hF3 a j (mh_nr a j hs)]; exact h2 a j h)) (fun a j h => by rw [hF3 a j (mh_no (by omega))]; exact h2 a j (by omega)))
  | succ m ih =>
    intro k g1 hk h1 h53
    have e3 : g1 52 3 = nI A.2.2.2.1.1 := by rw [h1 52 3 (by omega)]; exact e12
    have ei : 160 * nI A.2.2.2.1.1 + nI k = nI (160 * A.2.2.2.1.1 + k) := by rw [mul160, nI_add]
    refine mm_B ok_Mo_text 8 3 (19, [some (.ref 52), some (.int (nI k))], [.int (g1 52 6), .int (nI k)], (hp_SH ++ dy, g1, r)) [] rfl trivial ?_
    rw [h1 52 6 (by omega), e6]
    refine mm_I ok_Mo_text 11 0 19 [some (.ref 52), some (.int (nI k))] [.int (nI A.2.2.2.2.1.1), .int (nI k)] (hp_SH ++ dy, g1, r) [] rfl trivial rfl rfl (fun q => False.elim (absurd q (Int32.not_le.mpr (nI_lt (by omega) (by omega))))) (fun _ => ?_)
    refine mm_B ok_Mo_text 12 15 (14, [some (.ref 52), some (.int ((nI k) + 1))], [], (hp_SH ++ dy, mm_up g1 53 (((160 * (g1 52 3)) + (nI k)).toNatClampNeg) (g1 55 ((nI k).toNatClampNeg)), r)) [vp_in (nI k) 160, vp_in ((160 * (g1 52 3)) + (nI k)) 960] rfl (show (vp_in (nI k) 160) ∧ (vp_in ((160 * (g1 52 3)) + (nI k)) 960) from ⟨(nI_vi (by omega) (by decide)), ((by rw [e3, ei]; exact nI_vi (by omega) (by decide)))⟩) ?_
    rw [e3, ei, nI_1, nI_clamp (show k < 2 ^ 31 by omega), nI_clamp (show 160 * A.2.2.2.1.1 + k < 2 ^ 31 by omega), show g1 55 k = A.2.2.2.2.1.2 k by rw [h1 55 k (by omega)]; exact (e55 k (by omega)).1]
    exact ih (k + 1) _ (by omega) (fun a j h => by rw [up_off (by omega)]; exact h1 a j h) (fun i hi => by
      by_cases e : i = k
      · rw [e, mm_up_at]
      · rw [up_off (by omega)]; exact h53 i (by omega))
theorem cm_text (dy : List mm_Sh) (g : Nat → Nat → Int32) (r : (Nat → Nat → Int64) × Nat × (Nat → Int32)) {A : sA} (hI : MI (nr_ g) A) (hSI : SI A) : mm_Ct 75 M_Mo_text [.ref 52] (hp_SH ++ dy, g, r) 0 0 (RM dy g r (an_text A).2 (.int (an_text A).1)) := by
  have hI' := hI
  obtain ⟨hL, hK, hPl, hX, hB, hS, hIm⟩ := hI'
  have e12 : g 52 3 = nI A.2.2.2.1.1 := by rw [← nr_eq g (k := 52) (j := 3) rfl]; exact hX.1
  have htc := hX.2.1
  refine mm_start pl_Mo (Nat.le_of_ble_eq_true rfl) ?_
  refine mm_B ok_Mo_text 0 3 (6, [some (.ref 52), none], [.int 6, .int (g 52 3)], (hp_SH ++ dy, g, r)) [] rfl trivial ?_
  rw [e12]
  by_cases hc : A.2.2.2.1.1 = 6
  · rw [show an_text A = (-4, A) from if_pos hc]
    refine mm_I ok_Mo_text 3 0 6 [some (.ref 52), none] [.int 6, .int (nI A.2.2.2.1.1)] (hp_SH ++ dy, g, r) [] rfl trivial rfl rfl (fun q => False.elim (q (by rw [hc]; rfl))) (fun _ => ?_)
    refine mm_B ok_Mo_text 4 1 (11, [some (.ref 52), none], [.int (-4)], (hp_SH ++ dy, g, r)) [] rfl trivial ?_
    exact mm_ri rfl (mm_at ok_Mo_text (i := 5) rfl).1 ⟨Nat.le_refl _, Nat.le_refl _⟩ (RM_q rfl hI fr_.rf)
  · refine mm_I ok_Mo_text 3 0 6 [some (.ref 52), none] [.int 6, .int (nI A.2.2.2.1.1)] (hp_SH ++ dy, g, r) [] rfl trivial rfl rfl (fun _ => ?_) (fun q => False.elim (hc ((nI_eq (b := 6) (by omega) (by decide)).mp q)))
    refine mm_B ok_Mo_text 6 2 (14, [some (.ref 52), some (.int 0)], [], (hp_SH ++ dy, g, r)) [] rfl trivial ?_
    exact mtx_go dy g r hI (by omega) hc _ 0 g (Nat.zero_add _) (fun _ _ _ => rfl) (fun i hi => absurd hi (Nat.not_lt_zero i))

