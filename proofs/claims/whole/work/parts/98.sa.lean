/-! ===== calls that change the state: sheet, cell, copy ===== -/
abbrev sV : Type := Option (Nat × Nat × (Nat → Int32))
def us_ (f : sS) (k : Nat) (v : sV) : sS := fun j => if j = k then v else f j
theorem us_at (f : sS) (k : Nat) (v : sV) : us_ f k v k = v := if_pos rfl
theorem us_no {f : sS} {k j : Nat} {v : sV} (h : j ≠ k) : us_ f k v j = f j := if_neg h
def nx_sh (A : sA) (k : Nat) (v : sV) : sA := (A.1, A.2.1, A.2.2.1, A.2.2.2.1, A.2.2.2.2.1, us_ A.2.2.2.2.2.1 k v, A.2.2.2.2.2.2)
theorem SI_sh {A : sA} (h : SI A) (k : Nat) (v : sV) : SI (nx_sh A k v) := h
def cs1 (P : Nat → Nat → Int32) (k : Nat) : sV → Prop
  | none => P 51 k = -1
  | some q => P 51 k = nI q.1 ∧ q.1 < 3 ∧ P 50 k = nI q.2.1 ∧ q.2.1 ≤ 40 ∧ ∀ i, i < q.2.1 → P (46 + k) i = q.2.2 i
def ds1 (P : Nat → Nat → Int32) (k : Nat) : sV → Prop
  | none => P 73 k = 0
  | some q => P 73 k = 1 ∧ P 74 k = nI q.1 ∧ q.1 < 3 ∧ P 75 k = nI q.2.1 ∧ q.2.1 ≤ 40 ∧ ∀ i, i < q.2.1 → P 76 (40 * k + i) = q.2.2 i
theorem nr_46 {k : Nat} (hk : k < 4) (j : Nat) : nr_s (46 + k) j = false := by
  rcases (show k = 0 ∨ k = 1 ∨ k = 2 ∨ k = 3 by omega) with rfl | rfl | rfl | rfl <;> rfl
theorem cs1_g {g : Nat → Nat → Int32} {k : Nat} (hk : k < 4) {v : sV} (h : cs1 (nr_ g) k v) : cs1 g k v := by
  cases v with
  | none =>
    have h : nr_ g 51 k = -1 := h
    rw [nr_eq g rfl] at h
    exact h
  | some q =>
    obtain ⟨a1, a2, a3, a4, a5⟩ := h
    rw [nr_eq g rfl] at a1 a3
    exact ⟨a1, a2, a3, a4, fun i hi => by rw [← nr_eq g (nr_46 hk i)]; exact a5 i hi⟩
theorem ds1_g {g : Nat → Nat → Int32} {k : Nat} {v : sV} (h : ds1 (nr_ g) k v) : ds1 g k v := by
  cases v with
  | none =>
    have h : nr_ g 73 k = 0 := h
    rw [nr_eq g rfl] at h
    exact h
  | some q =>
    obtain ⟨a0, a1, a2, a3, a4, a5⟩ := h
    rw [nr_eq g rfl] at a0 a1 a3
    exact ⟨a0, a1, a2, a3, a4, fun i hi => by rw [← nr_eq g (k := 76) (j := 40 * k + i) rfl]; exact a5 i hi⟩
theorem cS_1 {P : Nat → Nat → Int32} {s : sS} (h : cS P s) {k : Nat} (hk : k < 4) : P 45 k = nI (46 + k + 1) ∧ cs1 P k (s k) := by
  obtain ⟨h1, h2⟩ := h k hk
  refine ⟨h1, ?_⟩
  cases hs : s k with
  | none => rw [hs] at h2; exact h2
  | some q => rw [hs] at h2; exact h2
theorem dS_1 {P : Nat → Nat → Int32} {s : sS} (h : dS P s) {k : Nat} (hk : k < 4) : ds1 P k (s k) := by
  have h2 := h k hk
  cases hs : s k with
  | none => rw [hs] at h2; exact h2
  | some q => rw [hs] at h2; exact h2
theorem cS_of {P : Nat → Nat → Int32} {s : sS} (h : ∀ k, k < 4 → P 45 k = nI (46 + k + 1) ∧ cs1 P k (s k)) : cS P s := by
  intro k hk
  obtain ⟨h1, h2⟩ := h k hk
  refine ⟨h1, ?_⟩
  cases hs : s k with
  | none => rw [hs] at h2; exact h2
  | some q => rw [hs] at h2; exact h2
theorem dS_of {P : Nat → Nat → Int32} {s : sS} (h : ∀ k, k < 4 → ds1 P k (s k)) : dS P s := by
  intro k hk
  have h2 := h k hk
  cases hs : s k with
  | none => rw [hs] at h2; exact h2
  | some q => rw [hs] at h2; exact h2
theorem cs1_fr {g g' : Nat → Nat → Int32} {i : Nat} (hi : i < 4) {v : sV} (h : cs1 (nr_ g) i v) (h1 : g' 51 i = g 51 i) (h2 : g' 50 i = g 50 i) (h3 : ∀ j, g' (46 + i) j = g (46 + i) j) : cs1 (nr_ g') i v := by
  cases v with
  | none =>
    show nr_ g' 51 i = -1
    rw [nr_cong h1]
    exact h
  | some q =>
    obtain ⟨a1, a2, a3, a4, a5⟩ := h
    exact ⟨by rw [nr_cong h1]; exact a1, a2, by rw [nr_cong h2]; exact a3, a4, fun j hj => by rw [nr_cong (h3 j)]; exact a5 j hj⟩
theorem ds1_fr {g g' : Nat → Nat → Int32} {i : Nat} {v : sV} (h : ds1 (nr_ g) i v) (h0 : g' 73 i = g 73 i) (h1 : g' 74 i = g 74 i) (h2 : g' 75 i = g 75 i) (h3 : ∀ j, j < 40 → g' 76 (40 * i + j) = g 76 (40 * i + j)) : ds1 (nr_ g') i v := by
  cases v with
  | none =>
    show nr_ g' 73 i = 0
    rw [nr_cong h0]
    exact h
  | some q =>
    obtain ⟨a0, a1, a2, a3, a4, a5⟩ := h
    exact ⟨by rw [nr_cong h0]; exact a0, by rw [nr_cong h1]; exact a1, a2, by rw [nr_cong h2]; exact a3, a4, fun j hj => by rw [nr_cong (h3 j (by omega))]; exact a5 j hj⟩
theorem cs1_n {g : Nat → Nat → Int32} {k : Nat} (hk : k < 4) {v : sV} (h : cs1 g k v) : cs1 (nr_ g) k v := by
  cases v with
  | none => show nr_ g 51 k = -1; rw [nr_eq g rfl]; exact h
  | some q =>
    obtain ⟨a1, a2, a3, a4, a5⟩ := h
    exact ⟨by rw [nr_eq g rfl]; exact a1, a2, by rw [nr_eq g rfl]; exact a3, a4, fun i hi => by rw [nr_eq g (nr_46 hk i)]; exact a5 i hi⟩
theorem ds1_n {g : Nat → Nat → Int32} {k : Nat} {v : sV} (h : ds1 g k v) : ds1 (nr_ g) k v := by
  cases v with
  | none => show nr_ g 73 k = 0; rw [nr_eq g rfl]; exact h
  | some q =>
    obtain ⟨a0, a1, a2, a3, a4, a5⟩ := h
    exact ⟨by rw [nr_eq g rfl]; exact a0, by rw [nr_eq g rfl]; exact a1, a2, by rw [nr_eq g rfl]; exact a3, a4, fun i hi => by rw [nr_eq g rfl]; exact a5 i hi⟩
theorem CI_sh {dy : List mm_Sh} {A : sA} {g g' : Nat → Nat → Int32} (hI : CI dy (nr_ g) A) {k : Nat} (hk : k < 4) {v : sV} (hn : cs1 g' k v) (hF : ∀ a j, ¬ (((a = 50 ∨ a = 51) ∧ j = k) ∨ a = 46 + k) → g' a j = g a j) : CI dy (nr_ g') (nx_sh A k v) := by
  obtain ⟨hL, hK, hPl, hX, hB, hS, hIm, hFd, hW⟩ := hI
  have hP : ∀ a j, ¬ (((a = 50 ∨ a = 51) ∧ j = k) ∨ a = 46 + k) → nr_ g' a j = nr_ g a j := fun a j h => nr_cong (hF a j h)
  refine ⟨rl_L_fr hL (fun a j h => hP a j (by omega)), rl_C_fr hK (fun a j h => hP a j (by omega)), cP_fr hPl (fun a j h => hP a j (by omega)), cX_fr hX (fun a j h => hP a j (by omega)), cB_fr hB (fun a j h => hP a j (by omega)), cS_of (fun i hi => ?_), cI_fr hIm (fun a j h => hP a j (by omega)), cF_fr hFd (fun a j h => hP a j (by omega)), wf_P hW (fun a j h => hP a j (by omega))⟩
  obtain ⟨h1, h2⟩ := cS_1 hS hi
  refine ⟨by rw [hP 45 i (by omega)]; exact h1, ?_⟩
  show cs1 (nr_ g') i (us_ A.2.2.2.2.2.1 k v i)
  by_cases e : i = k
  · subst e
    rw [us_at]
    exact cs1_n hk hn
  · rw [us_no e]
    exact cs1_fr hi h2 (hF 51 i (by omega)) (hF 50 i (by omega)) (fun j => hF (46 + i) j (by omega))
theorem MI_sh {A : sA} {g g' : Nat → Nat → Int32} (hI : MI (nr_ g) A) {k : Nat} (hk : k < 4) {v : sV} (hn : ds1 g' k v) (hF : ∀ a j, ¬ (((a = 73 ∨ a = 74 ∨ a = 75) ∧ j = k) ∨ (a = 76 ∧ 40 * k ≤ j ∧ j < 40 * k + 40)) → g' a j = g a j) : MI (nr_ g') (nx_sh A k v) := by
  obtain ⟨hL, hK, hPl, hX, hB, hS, hIm⟩ := hI
  have hP : ∀ a j, ¬ (((a = 73 ∨ a = 74 ∨ a = 75) ∧ j = k) ∨ (a = 76 ∧ 40 * k ≤ j ∧ j < 40 * k + 40)) → nr_ g' a j = nr_ g a j := fun a j h => nr_cong (hF a j h)
  refine ⟨rl_LM_fr hL (fun a j h => hP a j (by omega)), rl_CM_fr hK (fun a j h => hP a j (by omega)), dP_fr hPl (fun j => hP 62 j (by omega)), dX_fr hX (fun a j h => hP a j (by omega)), dB_fr hB (fun a j h => hP a j (by omega)), dS_of (fun i hi => ?_), dI_fr hIm (fun a j h => hP a j (by omega))⟩
  have h2 := dS_1 hS hi
  show ds1 (nr_ g') i (us_ A.2.2.2.2.2.1 k v i)
  by_cases e : i = k
  · subst e
    rw [us_at]
    exact ds1_n hn
  · rw [us_no e]
    exact ds1_fr h2 (hF 73 i (by omega)) (hF 74 i (by omega)) (hF 75 i (by omega)) (fun j hj => hF 76 _ (by omega))
def sv_ (t n : Int32) : Int32 ⊕ sV := if t = -1 then .inr none else match ix_ 3 t with
  | none => .inl (-2)
  | some j => if 40 < n then .inl (-2) else if n < 0 then .inl (-14) else .inr (some (j, n.toNatClampNeg, fun _ => 0))
def an_sheet (A : sA) (s t n : Int32) : Int32 × sA := match ix_ 4 s with
  | none => (-2, A)
  | some k => (match sv_ t n with
    | .inl e => (e, A)
    | .inr v => (1, nx_sh A k v))
theorem in_m1 (x : Int32) : f_Mo_in x.toInt64 (-1) 2 = if x = -1 then 1 else iz_ (ix_ 3 x) := by
  rw [show (-1 : Int64) = (-1 : Int32).toInt64 by decide, show (2 : Int64) = (2 : Int32).toInt64 by decide, in_ok]
  by_cases h : x = -1
  · subst h; decide
  · rw [if_neg h, iz_ix]
    have h' : x.toInt ≠ -1 := fun e => h (Int32.toInt_inj.mp (e.trans (by decide)))
    have e1 : (-1 : Int32).toInt = -1 := rfl
    have e2 : (2 : Int32).toInt = 2 := rfl
    have e3 : (nI 3).toInt = 3 := rfl
    have e0 : (0 : Int32).toInt = 0 := rfl
    simp only [Int32.lt_iff_toInt_lt, Int32.le_iff_toInt_le, e1, e2, e3, e0]
    by_cases a : x.toInt < 0
    · rw [if_pos a, if_neg (by omega)]
    · rw [if_neg a]
      by_cases b : 3 ≤ x.toInt
      · rw [if_pos b, if_neg (by omega)]
      · rw [if_neg b, if_pos (by omega)]
theorem cc_sheet (dy : List mm_Sh) (g : Nat → Nat → Int32) (r : (Nat → Nat → Int64) × Nat × (Nat → Int32)) {A : sA} (hI : CI dy (nr_ g) A) (hSI : SI A) (s t n : Int32) : mm_Ct 12 M_Sc_sheet [.ref 0, .int s, .int t, .int n] (hp_SH ++ dy, g, r) 0 0 (RC dy g r (an_sheet A s t n).2 (.int (an_sheet A s t n).1)) := by
  have hI' := hI
  obtain ⟨hL, hK, hPl, hX, hB, hS, hIm, hFd, hW⟩ := hI'
  have hR := cX_R hX
  have h4 := hL.2.1
  have h16 := p2_16 h4
  have h6 := hK.2.1
  have e20 : g 2 0 = nI A.1.1 := by rw [← nr_eq g (k := 2) (j := 0) rfl]; exact hL.1
  have e21 : g 2 1 = nI A.2.1.1 := by rw [← nr_eq g (k := 2) (j := 1) rfl]; exact hK.1
  have hpa : (hp_SH ++ dy)[9]? = some (.inl (0, 6)) := (hp_at dy (by decide)).trans rfl
  have hpl : ∀ b, b < 6 → g 9 b = pl_c (A.2.2.1.1 b) := fun b hb => by rw [← nr_eq g (k := 9) (j := b) rfl]; exact (hPl b hb).1
  have hot : ∀ b, b < 6 → g 10 b = pl_c (A.2.2.1.2 b) := fun b hb => by rw [← nr_eq g (k := 10) (j := b) rfl]; exact (hPl b hb).2
  have hpo : ∀ b l, b < 6 → A.2.2.1.1 b = some l → l < A.1.1 := fun b l hb h => hSI.1 b l hb (Or.inl h)
  refine mm_start pl_Sc (Nat.le_of_ble_eq_true rfl) ?_
  cases hx1 : ix_ 4 s with
  | none =>
    rw [show an_sheet A s t n = (-2, A) by unfold an_sheet; rw [hx1]]
    refine mm_B ok_Sc_sheet 0 1 (1, [some (.ref 0), some (.int s), some (.int t), some (.int n)], [.int s], (hp_SH ++ dy, g, r)) [] rfl trivial ?_
    refine mm_cS (as := [.int s]) (st := []) cw_Sc_isSheet lk_Sc_264 sx_Sc_isSheet (mm_at ok_Sc_sheet (i := 1) rfl).1 (ct_Sc_isSheet (hp_SH ++ dy, g, r) s) (by decide) ⟨by omega, by omega⟩ (Nat.le_of_ble_eq_true rfl) (mm_vs_b (b := 77) rfl (hp_len dy)) (fun v h' hqq => ?_)
    obtain ⟨rfl, hqe⟩ := hqq; rw [hqe]
    rw [sx_ s, hx1]
    refine mm_I ok_Sc_sheet 2 0 4 [some (.ref 0), some (.int s), some (.int t), some (.int n)] [.int (iz_ none)] (hp_SH ++ dy, g, r) [] rfl trivial rfl rfl (fun _ => ?_) (fun q => False.elim (q rfl))
    refine mm_B ok_Sc_sheet 9 1 (21, [some (.ref 0), some (.int s), some (.int t), some (.int n)], [.int (-2)], (hp_SH ++ dy, g, r)) [] rfl trivial ?_
    exact mm_ri rfl (mm_at ok_Sc_sheet (i := 10) rfl).1 ⟨Nat.le_refl _, Nat.le_refl _⟩ (RC_q rfl hI fr_.rf)
  | some k =>
    obtain ⟨hl1, rfl⟩ := ix_some (by omega) hx1
    have hlc := nI_clamp (show k < 2 ^ 31 by omega)
    have hun : ∀ z, sv_ t n = z → an_sheet A (nI k) t n = (match z with | .inl e => (e, A) | .inr v => (1, nx_sh A k v)) := fun z hz => by unfold an_sheet; rw [hx1, ← hz]
    refine mm_B ok_Sc_sheet 0 1 (1, [some (.ref 0), some (.int (nI k)), some (.int t), some (.int n)], [.int (nI k)], (hp_SH ++ dy, g, r)) [] rfl trivial ?_
    refine mm_cS (as := [.int (nI k)]) (st := []) cw_Sc_isSheet lk_Sc_264 sx_Sc_isSheet (mm_at ok_Sc_sheet (i := 1) rfl).1 (ct_Sc_isSheet (hp_SH ++ dy, g, r) (nI k)) (by decide) ⟨by omega, by omega⟩ (Nat.le_of_ble_eq_true rfl) (mm_vs_b (b := 77) rfl (hp_len dy)) (fun v h' hqq => ?_)
    obtain ⟨rfl, hqe⟩ := hqq; rw [hqe]
    rw [sx_ (nI k), ix_at hl1 (by omega)]
    refine mm_I ok_Sc_sheet 2 0 4 [some (.ref 0), some (.int (nI k)), some (.int t), some (.int n)] [.int (iz_ (some k))] (hp_SH ++ dy, g, r) [] rfl trivial rfl rfl (fun q => False.elim (one0 q)) (fun _ => ?_)
    by_cases ht : t = -1
    · subst ht
      rw [hun (.inr none) (if_pos rfl)]
      refine mm_I ok_Sc_sheet 3 2 9 [some (.ref 0), some (.int (nI k)), some (.int (-1)), some (.int n)] [.int (-1), .int (-1)] (hp_SH ++ dy, g, r) [] rfl trivial rfl rfl (fun _ => ?_) (fun q => False.elim (q rfl))
      refine mm_I ok_Sc_sheet 11 2 24 [some (.ref 0), some (.int (nI k)), some (.int (-1)), some (.int n)] [.int (-1), .int (-1)] (hp_SH ++ dy, g, r) [] rfl trivial rfl rfl (fun _ => ?_) (fun q => False.elim (q rfl))
      refine mm_I ok_Sc_sheet 19 2 38 [some (.ref 0), some (.int (nI k)), some (.int (-1)), some (.int n)] [.int (-1), .int (-1)] (hp_SH ++ dy, g, r) [] rfl trivial rfl rfl (fun _ => ?_) (fun q => False.elim (q rfl))
      refine mm_I ok_Sc_sheet 26 10 62 [some (.ref 0), some (.int (nI k)), some (.int (-1)), some (.int n)] [.int (-1), .int (-1), .int (nI k), .ref 50] (hp_SH ++ dy, mm_up g 51 ((nI k).toNatClampNeg) (-1), r) [vp_in (nI k) 4] rfl (show vp_in (nI k) 4 from (nI_vi hl1 (by decide))) rfl rfl (fun q => False.elim (q rfl)) (fun _ => ?_)
      refine mm_B ok_Sc_sheet 37 2 (70, [some (.ref 0), some (.int (nI k)), some (.int (-1)), some (.int n)], [.int 0, .int (nI k), .ref 50], (hp_SH ++ dy, mm_up g 51 ((nI k).toNatClampNeg) (-1), r)) [] rfl trivial ?_
      refine mm_B ok_Sc_sheet 40 4 (76, [some (.ref 0), some (.int (nI k)), some (.int (-1)), some (.int n)], [.int (nI k), .ref 45], (hp_SH ++ dy, mm_up (mm_up g 51 ((nI k).toNatClampNeg) (-1)) 50 ((nI k).toNatClampNeg) 0, r)) [vp_in (nI k) 4] rfl (show vp_in (nI k) 4 from (nI_vi hl1 (by decide))) ?_
      rw [hlc]
      obtain ⟨g1, hg1⟩ : ∃ x, x = mm_up (mm_up g 51 k (-1)) 50 k 0 := ⟨_, rfl⟩
      rw [← hg1]
      refine mm_aald (t := 4) (n := 4) (v := .ref (46 + k)) (Or.inr (Or.inr rfl)) ((hp_at dy (by decide)).trans rfl) (nI_vi hl1 (by decide)) (rf_46 hl1 (by show g1 45 (nI k).toNatClampNeg = _; rw [hlc, hg1, up_off (by omega), up_off (by omega), ← nr_eq g (k := 45) (j := k) rfl]; exact (cS_1 hS hl1).1)) (mm_at ok_Sc_sheet (i := 44) rfl).1 ?_
      refine mm_B ok_Sc_sheet 45 1 (78, [some (.ref 0), some (.int (nI k)), some (.int (-1)), some (.int n)], [.int 0, .ref (46 + k)], (hp_SH ++ dy, g1, r)) [] rfl trivial ?_
      refine mm_cS (as := [.ref (46 + k), .int 0]) (st := []) cw_Ar_fill lk_Sc_59 sx_Ar_fill (mm_at ok_Sc_sheet (i := 46) rfl).1 (ct_Ar_fill (hp_SH ++ dy) g1 r (sh_46 hl1) (by decide) 0) (by decide) ⟨by omega, by omega⟩ (Nat.le_of_ble_eq_true rfl) (mm_vs_b (b := 77) rfl (hp_len dy)) (fun v h' hqq => ?_)
      obtain ⟨rfl, g2, hqe, hf, hv2⟩ := hqq; rw [hqe]
      refine mm_B ok_Sc_sheet 47 1 (82, [some (.ref 0), some (.int (nI k)), some (.int (-1)), some (.int n)], [.int 1], (hp_SH ++ dy, g2, r)) [] rfl trivial ?_
      exact mm_ri rfl (mm_at ok_Sc_sheet (i := 48) rfl).1 ⟨Nat.le_refl _, Nat.le_refl _⟩ (RC_g rfl (CI_sh hI hl1 (v := none) (by show g2 51 k = -1; rw [hf 51 k (by omega), hg1, up_off (by omega), mm_up_at]) (fun a x h => by rw [hf a x (by omega), hg1, up_off (by omega), up_off (by omega)])) (fun a x h1 h2 => by rw [hf a x (by omega), hg1, up_off (by omega), up_off (by omega)]))
    · refine mm_I ok_Sc_sheet 3 2 9 [some (.ref 0), some (.int (nI k)), some (.int t), some (.int n)] [.int (-1), .int t] (hp_SH ++ dy, g, r) [] rfl trivial rfl rfl (fun q => False.elim (ht q)) (fun _ => ?_)
      refine mm_B ok_Sc_sheet 6 1 (13, [some (.ref 0), some (.int (nI k)), some (.int t), some (.int n)], [.int t], (hp_SH ++ dy, g, r)) [] rfl trivial ?_
      refine mm_cS (as := [.int t]) (st := []) cw_Sc_isSort lk_Sc_267 sx_Sc_isSort (mm_at ok_Sc_sheet (i := 7) rfl).1 (ct_Sc_isSort (hp_SH ++ dy, g, r) t) (by decide) ⟨by omega, by omega⟩ (Nat.le_of_ble_eq_true rfl) (mm_vs_b (b := 77) rfl (hp_len dy)) (fun v h' hqq => ?_)
      obtain ⟨rfl, hqe⟩ := hqq; rw [hqe]
      rw [ox_ t]
      cases hj : ix_ 3 t with
      | none =>
        rw [hun (.inl (-2)) (by unfold sv_; rw [if_neg ht, hj])]
        refine mm_I ok_Sc_sheet 8 0 16 [some (.ref 0), some (.int (nI k)), some (.int t), some (.int n)] [.int (iz_ none)] (hp_SH ++ dy, g, r) [] rfl trivial rfl rfl (fun q => False.elim (q rfl)) (fun _ => ?_)
        refine mm_B ok_Sc_sheet 9 1 (21, [some (.ref 0), some (.int (nI k)), some (.int t), some (.int n)], [.int (-2)], (hp_SH ++ dy, g, r)) [] rfl trivial ?_
        exact mm_ri rfl (mm_at ok_Sc_sheet (i := 10) rfl).1 ⟨Nat.le_refl _, Nat.le_refl _⟩ (RC_q rfl hI fr_.rf)
      | some j =>
        obtain ⟨hj3, rfl⟩ := ix_some (by decide) hj
        refine mm_I ok_Sc_sheet 8 0 16 [some (.ref 0), some (.int (nI k)), some (.int (nI j)), some (.int n)] [.int (iz_ (some j))] (hp_SH ++ dy, g, r) [] rfl trivial rfl rfl (fun _ => ?_) (fun q => False.elim (one0 q))
        refine mm_I ok_Sc_sheet 11 2 24 [some (.ref 0), some (.int (nI k)), some (.int (nI j)), some (.int n)] [.int (-1), .int (nI j)] (hp_SH ++ dy, g, r) [] rfl trivial rfl rfl (fun q => False.elim (ht q)) (fun _ => ?_)
        by_cases h40 : 40 < n
        · rw [hun (.inl (-2)) (by unfold sv_; rw [if_neg ht, hj]; exact if_pos h40)]
          refine mm_I ok_Sc_sheet 14 2 30 [some (.ref 0), some (.int (nI k)), some (.int (nI j)), some (.int n)] [.int 40, .int n] (hp_SH ++ dy, g, r) [] rfl trivial rfl rfl (fun q => False.elim (absurd h40 (Int32.not_lt.mpr q))) (fun _ => ?_)
          refine mm_B ok_Sc_sheet 17 1 (35, [some (.ref 0), some (.int (nI k)), some (.int (nI j)), some (.int n)], [.int (-2)], (hp_SH ++ dy, g, r)) [] rfl trivial ?_
          exact mm_ri rfl (mm_at ok_Sc_sheet (i := 18) rfl).1 ⟨Nat.le_refl _, Nat.le_refl _⟩ (RC_q rfl hI fr_.rf)
        · refine mm_I ok_Sc_sheet 14 2 30 [some (.ref 0), some (.int (nI k)), some (.int (nI j)), some (.int n)] [.int 40, .int n] (hp_SH ++ dy, g, r) [] rfl trivial rfl rfl (fun _ => ?_) (fun q => False.elim (h40 (Int32.not_le.mp q)))
          refine mm_I ok_Sc_sheet 19 2 38 [some (.ref 0), some (.int (nI k)), some (.int (nI j)), some (.int n)] [.int (-1), .int (nI j)] (hp_SH ++ dy, g, r) [] rfl trivial rfl rfl (fun q => False.elim (ht q)) (fun _ => ?_)
          by_cases hn0 : n < 0
          · rw [hun (.inl (-14)) (by unfold sv_; rw [if_neg ht, hj]; exact (if_neg h40).trans (if_pos hn0))]
            refine mm_I ok_Sc_sheet 22 1 42 [some (.ref 0), some (.int (nI k)), some (.int (nI j)), some (.int n)] [.int n] (hp_SH ++ dy, g, r) [] rfl trivial rfl rfl (fun q => False.elim (absurd hn0 (Int32.not_lt.mpr q))) (fun _ => ?_)
            refine mm_B ok_Sc_sheet 24 1 (47, [some (.ref 0), some (.int (nI k)), some (.int (nI j)), some (.int n)], [.int (-14)], (hp_SH ++ dy, g, r)) [] rfl trivial ?_
            exact mm_ri rfl (mm_at ok_Sc_sheet (i := 25) rfl).1 ⟨Nat.le_refl _, Nat.le_refl _⟩ (RC_q rfl hI fr_.rf)
          · rw [hun (.inr (some (j, n.toNatClampNeg, fun _ => 0))) (by unfold sv_; rw [if_neg ht, hj]; exact (if_neg h40).trans (if_neg hn0))]
            obtain ⟨N, hN, rfl⟩ := nI_of hn0
            have hN40 : N ≤ 40 := (nI_leI hN (by decide)).mp (Int32.not_lt.mp h40)
            rw [nI_clamp hN]
            refine mm_I ok_Sc_sheet 22 1 42 [some (.ref 0), some (.int (nI k)), some (.int (nI j)), some (.int (nI N))] [.int (nI N)] (hp_SH ++ dy, g, r) [] rfl trivial rfl rfl (fun _ => ?_) (fun q => False.elim (hn0 (Int32.not_le.mp q)))
            refine mm_I ok_Sc_sheet 26 10 62 [some (.ref 0), some (.int (nI k)), some (.int (nI j)), some (.int (nI N))] [.int (-1), .int (nI j), .int (nI k), .ref 50] (hp_SH ++ dy, mm_up g 51 ((nI k).toNatClampNeg) (nI j), r) [vp_in (nI k) 4] rfl (show vp_in (nI k) 4 from (nI_vi hl1 (by decide))) rfl rfl (fun _ => ?_) (fun q => False.elim (ht q))
            refine mm_B ok_Sc_sheet 39 5 (76, [some (.ref 0), some (.int (nI k)), some (.int (nI j)), some (.int (nI N))], [.int (nI k), .ref 45], (hp_SH ++ dy, mm_up (mm_up g 51 ((nI k).toNatClampNeg) (nI j)) 50 ((nI k).toNatClampNeg) (nI N), r)) [vp_in (nI k) 4] rfl (show vp_in (nI k) 4 from (nI_vi hl1 (by decide))) ?_
            rw [hlc]
            obtain ⟨g1, hg1⟩ : ∃ x, x = mm_up (mm_up g 51 k (nI j)) 50 k (nI N) := ⟨_, rfl⟩
            rw [← hg1]
            refine mm_aald (t := 4) (n := 4) (v := .ref (46 + k)) (Or.inr (Or.inr rfl)) ((hp_at dy (by decide)).trans rfl) (nI_vi hl1 (by decide)) (rf_46 hl1 (by show g1 45 (nI k).toNatClampNeg = _; rw [hlc, hg1, up_off (by omega), up_off (by omega), ← nr_eq g (k := 45) (j := k) rfl]; exact (cS_1 hS hl1).1)) (mm_at ok_Sc_sheet (i := 44) rfl).1 ?_
            refine mm_B ok_Sc_sheet 45 1 (78, [some (.ref 0), some (.int (nI k)), some (.int (nI j)), some (.int (nI N))], [.int 0, .ref (46 + k)], (hp_SH ++ dy, g1, r)) [] rfl trivial ?_
            refine mm_cS (as := [.ref (46 + k), .int 0]) (st := []) cw_Ar_fill lk_Sc_59 sx_Ar_fill (mm_at ok_Sc_sheet (i := 46) rfl).1 (ct_Ar_fill (hp_SH ++ dy) g1 r (sh_46 hl1) (by decide) 0) (by decide) ⟨by omega, by omega⟩ (Nat.le_of_ble_eq_true rfl) (mm_vs_b (b := 77) rfl (hp_len dy)) (fun v h' hqq => ?_)
            obtain ⟨rfl, g2, hqe, hf, hv2⟩ := hqq; rw [hqe]
            refine mm_B ok_Sc_sheet 47 1 (82, [some (.ref 0), some (.int (nI k)), some (.int (nI j)), some (.int (nI N))], [.int 1], (hp_SH ++ dy, g2, r)) [] rfl trivial ?_
            exact mm_ri rfl (mm_at ok_Sc_sheet (i := 48) rfl).1 ⟨Nat.le_refl _, Nat.le_refl _⟩ (RC_g rfl (CI_sh hI hl1 (v := some (j, N, fun _ => 0)) ⟨by rw [hf 51 k (by omega), hg1, up_off (by omega), mm_up_at], hj3, by rw [hf 50 k (by omega), hg1, mm_up_at], hN40, fun i hi => hv2 i (Nat.lt_of_lt_of_le hi hN40)⟩ (fun a x h => by rw [hf a x (by omega), hg1, up_off (by omega), up_off (by omega)])) (fun a x h1 h2 => by rw [hf a x (by omega), hg1, up_off (by omega), up_off (by omega)]))
theorem ms_go (dy : List mm_Sh) (g : Nat → Nat → Int32) (r : (Nat → Nat → Int64) × Nat × (Nat → Int32)) {A : sA} (hI : MI (nr_ g) A) {k j N : Nat} (hk : k < 4) (hj : j < 3) (hN : N ≤ 40) : ∀ (m i : Nat) (g1 : Nat → Nat → Int32), i + m = N → g1 73 k = 1 → g1 74 k = nI j → g1 75 k = nI N → (∀ a x, ¬ (((a = 73 ∨ a = 74 ∨ a = 75) ∧ x = k) ∨ (a = 76 ∧ 40 * k ≤ x ∧ x < 40 * k + 40)) → g1 a x = g a x) → (∀ x, x < i → g1 76 (40 * k + x) = 0) → mm_W 12 M_Mo_sheet 0 0 (RM dy g r (nx_sh A k (some (j, N, fun _ => 0))) (.int 1)) 0 0 (77, [some (.ref 52), some (.int (nI k)), some (.int (nI j)), some (.int (nI N)), some (.int (nI i))], [], (hp_SH ++ dy, g1, r)) := by
  intro m
  induction m with
  | zero =>
    intro i g1 hi h73 h74 h75 hF h0
    have hi : i = N := by omega
    subst hi
    refine mm_I ok_Mo_sheet 43 2 80 [some (.ref 52), some (.int (nI k)), some (.int (nI j)), some (.int (nI i)), some (.int (nI i))] [.int (nI i), .int (nI i)] (hp_SH ++ dy, g1, r) [] rfl trivial rfl rfl (fun _ => ?_) (fun q => False.elim (q (Int32.le_refl _)))
    refine mm_B ok_Mo_sheet 59 1 (107, [some (.ref 52), some (.int (nI k)), some (.int (nI j)), some (.int (nI i)), some (.int (nI i))], [.int 1], (hp_SH ++ dy, g1, r)) [] rfl trivial ?_
    exact mm_ri rfl (mm_at ok_Mo_sheet (i := 60) rfl).1 ⟨Nat.le_refl _, Nat.le_refl _⟩ (RM_g rfl (MI_sh hI hk (v := some (j, i, fun _ => 0)) ⟨h73, h74, hj, h75, hN, h0⟩ hF) (fun a x h => hF a x (by omega)))
  | succ m ih =>
    intro i g1 hi h73 h74 h75 hF h0
    have e1 : (40 : Int32) * nI k + nI i = nI (40 * k + i) := by rw [show (40 : Int32) * nI k = nI (40 * k) from (Int32.ofNat_mul 40 k).symm, nI_add]
    refine mm_I ok_Mo_sheet 43 2 80 [some (.ref 52), some (.int (nI k)), some (.int (nI j)), some (.int (nI N)), some (.int (nI i))] [.int (nI N), .int (nI i)] (hp_SH ++ dy, g1, r) [] rfl trivial rfl rfl (fun q => False.elim (absurd q (Int32.not_le.mpr (nI_lt (by omega) (by omega))))) (fun _ => ?_)
    refine mm_I ok_Mo_sheet 46 1 84 [some (.ref 52), some (.int (nI k)), some (.int (nI j)), some (.int (nI N)), some (.int (nI i))] [.int (nI j)] (hp_SH ++ dy, g1, r) [] rfl trivial rfl rfl (fun q => False.elim (nI_pos (n := j) (by omega) q)) (fun _ => ?_)
    refine mm_B ok_Mo_sheet 48 11 (77, [some (.ref 52), some (.int (nI k)), some (.int (nI j)), some (.int (nI N)), some (.int ((nI i) + 1))], [], (hp_SH ++ dy, mm_up g1 76 (((40 * (nI k)) + (nI i)).toNatClampNeg) 0, r)) [vp_in ((40 * (nI k)) + (nI i)) 160] rfl (show vp_in ((40 * (nI k)) + (nI i)) 160 from ((by rw [e1]; exact nI_vi (by omega) (by decide)))) ?_
    rw [e1, nI_1, nI_clamp (show 40 * k + i < 2 ^ 31 by omega)]
    exact ih (i + 1) _ (by omega) (by rw [up_off (by omega)]; exact h73) (by rw [up_off (by omega)]; exact h74) (by rw [up_off (by omega)]; exact h75) (fun a x h => by rw [up_off (by omega)]; exact hF a x h) (fun x hx => by
      by_cases e : x = i
      · rw [e, mm_up_at]
      · rw [up_off (by omega)]; exact h0 x (by omega))
theorem cm_sheet (dy : List mm_Sh) (g : Nat → Nat → Int32) (r : (Nat → Nat → Int64) × Nat × (Nat → Int32)) {A : sA} (hI : MI (nr_ g) A) (hSI : SI A) (s t n : Int32) : mm_Ct 12 M_Mo_sheet [.ref 52, .int s, .int t, .int n] (hp_SH ++ dy, g, r) 0 0 (RM dy g r (an_sheet A s t n).2 (.int (an_sheet A s t n).1)) := by
  have hI' := hI
  obtain ⟨hL, hK, hPl, hX, hB, hS, hIm⟩ := hI'
  have hR := dX_R hX
  have h4 := hL.2.1
  have h16 := p2_16 h4
  have h6 := hK.2.1
  have e10 : g 52 10 = nI A.1.1 := by rw [← nr_eq g (k := 52) (j := 10) rfl]; exact hL.1
  have e14 : g 52 14 = nI A.2.1.1 := by rw [← nr_eq g (k := 52) (j := 14) rfl]; exact hK.1
  have hpl : ∀ b, b < 6 → g 62 b = pl_c (A.2.2.1.1 b) := fun b hb => by rw [← nr_eq g (k := 62) (j := b) rfl]; exact (hPl b hb).1
  have hot : ∀ b, b < 6 → g 62 (6 + b) = pl_c (A.2.2.1.2 b) := fun b hb => by rw [← nr_eq g (k := 62) (j := 6 + b) rfl]; exact (hPl b hb).2
  have hpo : ∀ b l, b < 6 → A.2.2.1.1 b = some l → l < A.1.1 := fun b l hb h => hSI.1 b l hb (Or.inl h)
  refine mm_start pl_Mo (Nat.le_of_ble_eq_true rfl) ?_
  cases hx1 : ix_ 4 s with
  | none =>
    rw [show an_sheet A s t n = (-2, A) by unfold an_sheet; rw [hx1]]
    refine mm_B ok_Mo_sheet 0 1 (1, [some (.ref 52), some (.int s), some (.int t), some (.int n), none], [.int s], (hp_SH ++ dy, g, r)) [] rfl trivial ?_
    refine mm_cS (as := [.int s]) (st := []) cw_Mo_isSheet lk_Mo_323 sx_Mo_isSheet (mm_at ok_Mo_sheet (i := 1) rfl).1 (ct_Mo_isSheet (hp_SH ++ dy, g, r) s) (by decide) ⟨by omega, by omega⟩ (Nat.le_of_ble_eq_true rfl) (mm_vs_b (b := 77) rfl (hp_len dy)) (fun v h' hqq => ?_)
    obtain ⟨rfl, hqe⟩ := hqq; rw [hqe]
    rw [ms_x s, hx1]
    refine mm_I ok_Mo_sheet 2 0 4 [some (.ref 52), some (.int s), some (.int t), some (.int n), none] [.int (iz_ none)] (hp_SH ++ dy, g, r) [] rfl trivial rfl rfl (fun _ => ?_) (fun q => False.elim (q rfl))
    refine mm_B ok_Mo_sheet 14 1 (33, [some (.ref 52), some (.int s), some (.int t), some (.int n), none], [.int (-2)], (hp_SH ++ dy, g, r)) [] rfl trivial ?_
    exact mm_ri rfl (mm_at ok_Mo_sheet (i := 15) rfl).1 ⟨Nat.le_refl _, Nat.le_refl _⟩ (RM_q rfl hI fr_.rf)
  | some k =>
    obtain ⟨hl1, rfl⟩ := ix_some (by omega) hx1
    have hlc := nI_clamp (show k < 2 ^ 31 by omega)
    have hun : ∀ z, sv_ t n = z → an_sheet A (nI k) t n = (match z with | .inl e => (e, A) | .inr v => (1, nx_sh A k v)) := fun z hz => by unfold an_sheet; rw [hx1, ← hz]
    refine mm_B ok_Mo_sheet 0 1 (1, [some (.ref 52), some (.int (nI k)), some (.int t), some (.int n), none], [.int (nI k)], (hp_SH ++ dy, g, r)) [] rfl trivial ?_
    refine mm_cS (as := [.int (nI k)]) (st := []) cw_Mo_isSheet lk_Mo_323 sx_Mo_isSheet (mm_at ok_Mo_sheet (i := 1) rfl).1 (ct_Mo_isSheet (hp_SH ++ dy, g, r) (nI k)) (by decide) ⟨by omega, by omega⟩ (Nat.le_of_ble_eq_true rfl) (mm_vs_b (b := 77) rfl (hp_len dy)) (fun v h' hqq => ?_)
    obtain ⟨rfl, hqe⟩ := hqq; rw [hqe]
    rw [ms_x (nI k), ix_at hl1 (by omega)]
    refine mm_I ok_Mo_sheet 2 0 4 [some (.ref 52), some (.int (nI k)), some (.int t), some (.int n), none] [.int (iz_ (some k))] (hp_SH ++ dy, g, r) [] rfl trivial rfl rfl (fun q => False.elim (one0 q)) (fun _ => ?_)
    refine mm_B ok_Mo_sheet 3 4 (15, [some (.ref 52), some (.int (nI k)), some (.int t), some (.int n), none], [.long 2, .long (-1), .long (t).toInt64], (hp_SH ++ dy, g, r)) [] rfl trivial ?_
    refine mm_cS (as := [.long (t).toInt64, .long (-1), .long 2]) (st := []) cw_Mo_in lk_Mo_100 sx_Mo_in (mm_at ok_Mo_sheet (i := 7) rfl).1 (ct_Mo_in (hp_SH ++ dy, g, r) t.toInt64 (-1) 2) (by decide) ⟨by omega, by omega⟩ (Nat.le_of_ble_eq_true rfl) (mm_vs_b (b := 77) rfl (hp_len dy)) (fun v h' hqq => ?_)
    obtain ⟨rfl, hqe⟩ := hqq; rw [hqe]
    rw [in_m1 t]
    by_cases ht : t = -1
    · subst ht
      rw [hun (.inr none) (if_pos rfl), if_pos rfl]
      refine mm_I ok_Mo_sheet 8 0 18 [some (.ref 52), some (.int (nI k)), some (.int (-1)), some (.int n), none] [.int 1] (hp_SH ++ dy, g, r) [] rfl trivial rfl rfl (fun q => False.elim (absurd q (by decide))) (fun _ => ?_)
      refine mm_I ok_Mo_sheet 9 1 22 [some (.ref 52), some (.int (nI k)), some (.int (-1)), some (.int n), none] [.int (-1)] (hp_SH ++ dy, g, r) [] rfl trivial rfl rfl (fun _ => ?_) (fun q => False.elim (q (by decide)))
      refine mm_I ok_Mo_sheet 16 1 35 [some (.ref 52), some (.int (nI k)), some (.int (-1)), some (.int n), none] [.int (-1)] (hp_SH ++ dy, g, r) [] rfl trivial rfl rfl (fun _ => ?_) (fun q => False.elim (q (by decide)))
      refine mm_I ok_Mo_sheet 22 4 51 [some (.ref 52), some (.int (nI k)), some (.int (-1)), some (.int n), none] [.int (-1), .int (nI k), .ref 73] (hp_SH ++ dy, g, r) [] rfl trivial rfl rfl (fun _ => ?_) (fun q => False.elim (q (by decide)))
      refine mm_B ok_Mo_sheet 29 14 (77, [some (.ref 52), some (.int (nI k)), some (.int (-1)), some (.int n), some (.int 0)], [], (hp_SH ++ dy, mm_up (mm_up (mm_up g 73 ((nI k).toNatClampNeg) 0) 74 ((nI k).toNatClampNeg) (-1)) 75 ((nI k).toNatClampNeg) n, r)) [vp_in (nI k) 4, vp_nar .boolean 0 = 0, vp_in (nI k) 4, vp_in (nI k) 4] rfl (show (vp_in (nI k) 4) ∧ (vp_nar .boolean 0 = 0) ∧ (vp_in (nI k) 4) ∧ (vp_in (nI k) 4) from ⟨(nI_vi hl1 (by decide)), rfl, (nI_vi hl1 (by decide)), (nI_vi hl1 (by decide))⟩) ?_
      rw [hlc]
      have hd1 : ds1 (mm_up (mm_up (mm_up g 73 k 0) 74 k (-1)) 75 k n) k none := by show mm_up (mm_up (mm_up g 73 k 0) 74 k (-1)) 75 k n 73 k = 0; rw [up_off (by omega), up_off (by omega), mm_up_at]
      refine mm_I ok_Mo_sheet 43 2 80 [some (.ref 52), some (.int (nI k)), some (.int (-1)), some (.int n), some (.int 0)] [.int n, .int 0] (hp_SH ++ dy, mm_up (mm_up (mm_up g 73 k 0) 74 k (-1)) 75 k n, r) [] rfl trivial rfl rfl (fun h1 => ?_) (fun h1 => ?_)
      · refine mm_B ok_Mo_sheet 59 1 (107, [some (.ref 52), some (.int (nI k)), some (.int (-1)), some (.int n), some (.int 0)], [.int 1], (hp_SH ++ dy, mm_up (mm_up (mm_up g 73 k 0) 74 k (-1)) 75 k n, r)) [] rfl trivial ?_
        exact mm_ri rfl (mm_at ok_Mo_sheet (i := 60) rfl).1 ⟨Nat.le_refl _, Nat.le_refl _⟩ (RM_g rfl (MI_sh hI hl1 (v := none) hd1 (fun a x h => by rw [up_off (by omega), up_off (by omega), up_off (by omega)])) (fun a x h => by rw [up_off (by omega), up_off (by omega), up_off (by omega)]))
      · refine mm_I ok_Mo_sheet 46 1 84 [some (.ref 52), some (.int (nI k)), some (.int (-1)), some (.int n), some (.int 0)] [.int (-1)] (hp_SH ++ dy, mm_up (mm_up (mm_up g 73 k 0) 74 k (-1)) 75 k n, r) [] rfl trivial rfl rfl (fun _ => ?_) (fun q => False.elim (q (by decide)))
        refine mm_B ok_Mo_sheet 59 1 (107, [some (.ref 52), some (.int (nI k)), some (.int (-1)), some (.int n), some (.int 0)], [.int 1], (hp_SH ++ dy, mm_up (mm_up (mm_up g 73 k 0) 74 k (-1)) 75 k n, r)) [] rfl trivial ?_
        exact mm_ri rfl (mm_at ok_Mo_sheet (i := 60) rfl).1 ⟨Nat.le_refl _, Nat.le_refl _⟩ (RM_g rfl (MI_sh hI hl1 (v := none) hd1 (fun a x h => by rw [up_off (by omega), up_off (by omega), up_off (by omega)])) (fun a x h => by rw [up_off (by omega), up_off (by omega), up_off (by omega)]))
    · rw [if_neg ht]
      cases hj : ix_ 3 t with
      | none =>
        rw [hun (.inl (-2)) (by unfold sv_; rw [if_neg ht, hj])]
        refine mm_I ok_Mo_sheet 8 0 18 [some (.ref 52), some (.int (nI k)), some (.int t), some (.int n), none] [.int (iz_ none)] (hp_SH ++ dy, g, r) [] rfl trivial rfl rfl (fun _ => ?_) (fun q => False.elim (q rfl))
        refine mm_B ok_Mo_sheet 14 1 (33, [some (.ref 52), some (.int (nI k)), some (.int t), some (.int n), none], [.int (-2)], (hp_SH ++ dy, g, r)) [] rfl trivial ?_
        exact mm_ri rfl (mm_at ok_Mo_sheet (i := 15) rfl).1 ⟨Nat.le_refl _, Nat.le_refl _⟩ (RM_q rfl hI fr_.rf)
      | some j =>
        obtain ⟨hj3, rfl⟩ := ix_some (by decide) hj
        refine mm_I ok_Mo_sheet 8 0 18 [some (.ref 52), some (.int (nI k)), some (.int (nI j)), some (.int n), none] [.int (iz_ (some j))] (hp_SH ++ dy, g, r) [] rfl trivial rfl rfl (fun q => False.elim (one0 q)) (fun _ => ?_)
        refine mm_I ok_Mo_sheet 9 1 22 [some (.ref 52), some (.int (nI k)), some (.int (nI j)), some (.int n), none] [.int (nI j)] (hp_SH ++ dy, g, r) [] rfl trivial rfl rfl (fun q => False.elim (nI_pos (n := j) (by omega) q)) (fun _ => ?_)
        by_cases h40 : 40 < n
        · rw [hun (.inl (-2)) (by unfold sv_; rw [if_neg ht, hj]; exact if_pos h40)]
          refine mm_I ok_Mo_sheet 11 2 28 [some (.ref 52), some (.int (nI k)), some (.int (nI j)), some (.int n), none] [.int 40, .int n] (hp_SH ++ dy, g, r) [] rfl trivial rfl rfl (fun q => False.elim (absurd h40 (Int32.not_lt.mpr q))) (fun _ => ?_)
          refine mm_B ok_Mo_sheet 14 1 (33, [some (.ref 52), some (.int (nI k)), some (.int (nI j)), some (.int n), none], [.int (-2)], (hp_SH ++ dy, g, r)) [] rfl trivial ?_
          exact mm_ri rfl (mm_at ok_Mo_sheet (i := 15) rfl).1 ⟨Nat.le_refl _, Nat.le_refl _⟩ (RM_q rfl hI fr_.rf)
        · refine mm_I ok_Mo_sheet 11 2 28 [some (.ref 52), some (.int (nI k)), some (.int (nI j)), some (.int n), none] [.int 40, .int n] (hp_SH ++ dy, g, r) [] rfl trivial rfl rfl (fun _ => ?_) (fun q => False.elim (h40 (Int32.not_le.mp q)))
          refine mm_I ok_Mo_sheet 16 1 35 [some (.ref 52), some (.int (nI k)), some (.int (nI j)), some (.int n), none] [.int (nI j)] (hp_SH ++ dy, g, r) [] rfl trivial rfl rfl (fun q => False.elim (nI_pos (n := j) (by omega) q)) (fun _ => ?_)
          by_cases hn0 : n < 0
          · rw [hun (.inl (-14)) (by unfold sv_; rw [if_neg ht, hj]; exact (if_neg h40).trans (if_pos hn0))]
            refine mm_I ok_Mo_sheet 18 1 39 [some (.ref 52), some (.int (nI k)), some (.int (nI j)), some (.int n), none] [.int n] (hp_SH ++ dy, g, r) [] rfl trivial rfl rfl (fun q => False.elim (absurd hn0 (Int32.not_lt.mpr q))) (fun _ => ?_)
            refine mm_B ok_Mo_sheet 20 1 (44, [some (.ref 52), some (.int (nI k)), some (.int (nI j)), some (.int n), none], [.int (-14)], (hp_SH ++ dy, g, r)) [] rfl trivial ?_
            exact mm_ri rfl (mm_at ok_Mo_sheet (i := 21) rfl).1 ⟨Nat.le_refl _, Nat.le_refl _⟩ (RM_q rfl hI fr_.rf)
          · rw [hun (.inr (some (j, n.toNatClampNeg, fun _ => 0))) (by unfold sv_; rw [if_neg ht, hj]; exact (if_neg h40).trans (if_neg hn0))]
            obtain ⟨N, hN, rfl⟩ := nI_of hn0
            have hN40 : N ≤ 40 := (nI_leI hN (by decide)).mp (Int32.not_lt.mp h40)
            rw [nI_clamp hN]
            refine mm_I ok_Mo_sheet 18 1 39 [some (.ref 52), some (.int (nI k)), some (.int (nI j)), some (.int (nI N)), none] [.int (nI N)] (hp_SH ++ dy, g, r) [] rfl trivial rfl rfl (fun _ => ?_) (fun q => False.elim (hn0 (Int32.not_le.mp q)))
            refine mm_I ok_Mo_sheet 22 4 51 [some (.ref 52), some (.int (nI k)), some (.int (nI j)), some (.int (nI N)), none] [.int (nI j), .int (nI k), .ref 73] (hp_SH ++ dy, g, r) [] rfl trivial rfl rfl (fun q => False.elim (nI_pos (n := j) (by omega) q)) (fun _ => ?_)
            refine mm_B ok_Mo_sheet 27 2 (59, [some (.ref 52), some (.int (nI k)), some (.int (nI j)), some (.int (nI N)), none], [.int 1, .int (nI k), .ref 73], (hp_SH ++ dy, g, r)) [] rfl trivial ?_
            refine mm_B ok_Mo_sheet 30 13 (77, [some (.ref 52), some (.int (nI k)), some (.int (nI j)), some (.int (nI N)), some (.int 0)], [], (hp_SH ++ dy, mm_up (mm_up (mm_up g 73 ((nI k).toNatClampNeg) 1) 74 ((nI k).toNatClampNeg) (nI j)) 75 ((nI k).toNatClampNeg) (nI N), r)) [vp_in (nI k) 4, vp_nar .boolean 1 = 1, vp_in (nI k) 4, vp_in (nI k) 4] rfl (show (vp_in (nI k) 4) ∧ (vp_nar .boolean 1 = 1) ∧ (vp_in (nI k) 4) ∧ (vp_in (nI k) 4) from ⟨(nI_vi hl1 (by decide)), rfl, (nI_vi hl1 (by decide)), (nI_vi hl1 (by decide))⟩) ?_
            rw [hlc]
            exact ms_go dy g r hI hl1 hj3 hN40 N 0 _ (Nat.zero_add _) (by rw [up_off (by omega), up_off (by omega), mm_up_at]) (by rw [up_off (by omega), mm_up_at]) (by rw [mm_up_at]) (fun a x h => by rw [up_off (by omega), up_off (by omega), up_off (by omega)]) (fun x hx => absurd hx (Nat.not_lt_zero x))
/-! cell -/
theorem mm_vs_i {n : Nat} {x : Int32} {lv : mm_L} {st : List Value} (h : mm_vs n lv st) : mm_vs n lv (.int x :: st) := ⟨h.1, fun k hk => (List.mem_cons.mp hk).elim (fun e => by cases e) (h.2 k)⟩
def uf_ (f : Nat → Int32) (i : Nat) (v : Int32) : Nat → Int32 := fun j => if j = i then v else f j
def an_cell (A : sA) (s i v : Int32) : Int32 × sA := match ix_ 4 s with
  | none => (-2, A)
  | some k => (match A.2.2.2.2.2.1 k with
    | none => (-11, A)
    | some q => (match ix_ q.2.1 i with
      | none => (-12, A)
      | some j => (1, nx_sh A k (some (q.1, q.2.1, uf_ q.2.2 j (f_Sc_trimmed (nI q.1) v))))))
theorem cc_cell (dy : List mm_Sh) (g : Nat → Nat → Int32) (r : (Nat → Nat → Int64) × Nat × (Nat → Int32)) {A : sA} (hI : CI dy (nr_ g) A) (hSI : SI A) (s i v : Int32) : mm_Ct 12 M_Sc_cell [.ref 0, .int s, .int i, .int v] (hp_SH ++ dy, g, r) 0 0 (RC dy g r (an_cell A s i v).2 (.int (an_cell A s i v).1)) := by
  have hI' := hI
  obtain ⟨hL, hK, hPl, hX, hB, hS, hIm, hFd, hW⟩ := hI'
  have hR := cX_R hX
  have h4 := hL.2.1
  have h16 := p2_16 h4
  have h6 := hK.2.1
  have e20 : g 2 0 = nI A.1.1 := by rw [← nr_eq g (k := 2) (j := 0) rfl]; exact hL.1
  have e21 : g 2 1 = nI A.2.1.1 := by rw [← nr_eq g (k := 2) (j := 1) rfl]; exact hK.1
  have hpa : (hp_SH ++ dy)[9]? = some (.inl (0, 6)) := (hp_at dy (by decide)).trans rfl
  have hpl : ∀ b, b < 6 → g 9 b = pl_c (A.2.2.1.1 b) := fun b hb => by rw [← nr_eq g (k := 9) (j := b) rfl]; exact (hPl b hb).1
  have hot : ∀ b, b < 6 → g 10 b = pl_c (A.2.2.1.2 b) := fun b hb => by rw [← nr_eq g (k := 10) (j := b) rfl]; exact (hPl b hb).2
  have hpo : ∀ b l, b < 6 → A.2.2.1.1 b = some l → l < A.1.1 := fun b l hb h => hSI.1 b l hb (Or.inl h)
  refine mm_start pl_Sc (Nat.le_of_ble_eq_true rfl) ?_
  cases hx1 : ix_ 4 s with
  | none =>
    rw [show an_cell A s i v = (-2, A) by unfold an_cell; rw [hx1]]
    refine mm_B ok_Sc_cell 0 1 (1, [some (.ref 0), some (.int s), some (.int i), some (.int v)], [.int s], (hp_SH ++ dy, g, r)) [] rfl trivial ?_
    refine mm_cS (as := [.int s]) (st := []) cw_Sc_isSheet lk_Sc_264 sx_Sc_isSheet (mm_at ok_Sc_cell (i := 1) rfl).1 (ct_Sc_isSheet (hp_SH ++ dy, g, r) s) (by decide) ⟨by omega, by omega⟩ (Nat.le_of_ble_eq_true rfl) (mm_vs_b (b := 77) rfl (hp_len dy)) (fun v h' hqq => ?_)
    obtain ⟨rfl, hqe⟩ := hqq; rw [hqe]
    rw [sx_ s, hx1]
    refine mm_I ok_Sc_cell 2 0 4 [some (.ref 0), some (.int s), some (.int i), some (.int v)] [.int (iz_ none)] (hp_SH ++ dy, g, r) [] rfl trivial rfl rfl (fun q => False.elim (q rfl)) (fun _ => ?_)
    refine mm_B ok_Sc_cell 3 1 (9, [some (.ref 0), some (.int s), some (.int i), some (.int v)], [.int (-2)], (hp_SH ++ dy, g, r)) [] rfl trivial ?_
    exact mm_ri rfl (mm_at ok_Sc_cell (i := 4) rfl).1 ⟨Nat.le_refl _, Nat.le_refl _⟩ (RC_q rfl hI fr_.rf)
  | some k =>
    obtain ⟨hl1, rfl⟩ := ix_some (by omega) hx1
    have hlc := nI_clamp (show k < 2 ^ 31 by omega)
    obtain ⟨e45, hs1⟩ := cS_1 hS hl1
    rw [nr_eq g rfl] at e45
    have hs1 := cs1_g hl1 hs1
    refine mm_B ok_Sc_cell 0 1 (1, [some (.ref 0), some (.int (nI k)), some (.int i), some (.int v)], [.int (nI k)], (hp_SH ++ dy, g, r)) [] rfl trivial ?_
    refine mm_cS (as := [.int (nI k)]) (st := []) cw_Sc_isSheet lk_Sc_264 sx_Sc_isSheet (mm_at ok_Sc_cell (i := 1) rfl).1 (ct_Sc_isSheet (hp_SH ++ dy, g, r) (nI k)) (by decide) ⟨by omega, by omega⟩ (Nat.le_of_ble_eq_true rfl) (mm_vs_b (b := 77) rfl (hp_len dy)) (fun v h' hqq => ?_)
    obtain ⟨rfl, hqe⟩ := hqq; rw [hqe]
    rw [sx_ (nI k), ix_at hl1 (by omega)]
    refine mm_I ok_Sc_cell 2 0 4 [some (.ref 0), some (.int (nI k)), some (.int i), some (.int v)] [.int (iz_ (some k))] (hp_SH ++ dy, g, r) [] rfl trivial rfl rfl (fun _ => ?_) (fun q => False.elim (one0 q))
    refine mm_B ok_Sc_cell 5 5 (17, [some (.ref 0), some (.int (nI k)), some (.int i), some (.int v)], [.int (-1), .int (g 51 ((nI k).toNatClampNeg))], (hp_SH ++ dy, g, r)) [vp_in (nI k) 4] rfl (show vp_in (nI k) 4 from (nI_vi hl1 (by decide))) ?_
    rw [hlc]
    cases hs : A.2.2.2.2.2.1 k with
    | none =>
      rw [hs] at hs1
      have h51 : g 51 k = -1 := hs1
      rw [show an_cell A (nI k) i v = (-11, A) by unfold an_cell; rw [hx1]; show (match A.2.2.2.2.2.1 k with | none => _ | some q => _) = _; rw [hs]]
      refine mm_I ok_Sc_cell 10 0 17 [some (.ref 0), some (.int (nI k)), some (.int i), some (.int v)] [.int (-1), .int (g 51 (k))] (hp_SH ++ dy, g, r) [] rfl trivial rfl rfl (fun q => False.elim (q h51)) (fun _ => ?_)
      refine mm_B ok_Sc_cell 11 1 (22, [some (.ref 0), some (.int (nI k)), some (.int i), some (.int v)], [.int (-11)], (hp_SH ++ dy, g, r)) [] rfl trivial ?_
      exact mm_ri rfl (mm_at ok_Sc_cell (i := 12) rfl).1 ⟨Nat.le_refl _, Nat.le_refl _⟩ (RC_q rfl hI fr_.rf)
    | some p =>
      rw [hs] at hs1
      obtain ⟨a1, a2, a3, a4, a5⟩ := hs1
      have hun : ∀ z, ix_ p.2.1 i = z → an_cell A (nI k) i v = (match z with | none => (-12, A) | some j => (1, nx_sh A k (some (p.1, p.2.1, uf_ p.2.2 j (f_Sc_trimmed (nI p.1) v))))) := fun z hz => by
        unfold an_cell; rw [hx1]; show (match A.2.2.2.2.2.1 k with | none => _ | some q => _) = _; rw [hs]; show (match ix_ p.2.1 i with | none => _ | some j => _) = _; rw [hz]
      refine mm_I ok_Sc_cell 10 0 17 [some (.ref 0), some (.int (nI k)), some (.int i), some (.int v)] [.int (-1), .int (g 51 (k))] (hp_SH ++ dy, g, r) [] rfl trivial rfl rfl (fun _ => ?_) (fun q => False.elim (m1_ne (l := p.1) (by omega) (a1.symm.trans q)))
      cases hj : ix_ p.2.1 i with
      | none =>
        rw [hun none hj]
        rcases ix_none hj with h | h
        · refine mm_I ok_Sc_cell 13 1 24 [some (.ref 0), some (.int (nI k)), some (.int i), some (.int v)] [.int i] (hp_SH ++ dy, g, r) [] rfl trivial rfl rfl (fun _ => ?_) (fun q => False.elim (q h))
          refine mm_B ok_Sc_cell 21 1 (39, [some (.ref 0), some (.int (nI k)), some (.int i), some (.int v)], [.int (-12)], (hp_SH ++ dy, g, r)) [] rfl trivial ?_
          exact mm_ri rfl (mm_at ok_Sc_cell (i := 22) rfl).1 ⟨Nat.le_refl _, Nat.le_refl _⟩ (RC_q rfl hI fr_.rf)
        · refine mm_I ok_Sc_cell 13 1 24 [some (.ref 0), some (.int (nI k)), some (.int i), some (.int v)] [.int i] (hp_SH ++ dy, g, r) [] rfl trivial rfl rfl (fun q => False.elim (absurd q (Int32.not_lt.mpr (Int32.le_trans (nI_pos' (by omega)) h)))) (fun _ => ?_)
          refine mm_B ok_Sc_cell 15 5 (34, [some (.ref 0), some (.int (nI k)), some (.int i), some (.int v)], [.int (g 50 ((nI k).toNatClampNeg)), .int i], (hp_SH ++ dy, g, r)) [vp_in (nI k) 4] rfl (show vp_in (nI k) 4 from (nI_vi hl1 (by decide))) ?_
          rw [hlc, a3]
          refine mm_I ok_Sc_cell 20 0 34 [some (.ref 0), some (.int (nI k)), some (.int i), some (.int v)] [.int (nI p.2.1), .int i] (hp_SH ++ dy, g, r) [] rfl trivial rfl rfl (fun q => False.elim (absurd q (Int32.not_lt.mpr h))) (fun _ => ?_)
          refine mm_B ok_Sc_cell 21 1 (39, [some (.ref 0), some (.int (nI k)), some (.int i), some (.int v)], [.int (-12)], (hp_SH ++ dy, g, r)) [] rfl trivial ?_
          exact mm_ri rfl (mm_at ok_Sc_cell (i := 22) rfl).1 ⟨Nat.le_refl _, Nat.le_refl _⟩ (RC_q rfl hI fr_.rf)
      | some j =>
        rw [hun (some j) hj]
        obtain ⟨hj1, rfl⟩ := ix_some (by omega) hj
        refine mm_I ok_Sc_cell 13 1 24 [some (.ref 0), some (.int (nI k)), some (.int (nI j)), some (.int v)] [.int (nI j)] (hp_SH ++ dy, g, r) [] rfl trivial rfl rfl (fun q => False.elim (nI_pos (n := j) (by omega) q)) (fun _ => ?_)
        refine mm_B ok_Sc_cell 15 5 (34, [some (.ref 0), some (.int (nI k)), some (.int (nI j)), some (.int v)], [.int (g 50 ((nI k).toNatClampNeg)), .int (nI j)], (hp_SH ++ dy, g, r)) [vp_in (nI k) 4] rfl (show vp_in (nI k) 4 from (nI_vi hl1 (by decide))) ?_
        rw [hlc, a3]
        refine mm_I ok_Sc_cell 20 0 34 [some (.ref 0), some (.int (nI k)), some (.int (nI j)), some (.int v)] [.int (nI p.2.1), .int (nI j)] (hp_SH ++ dy, g, r) [] rfl trivial rfl rfl (fun _ => ?_) (fun q => False.elim (q (nI_lt hj1 (by omega))))
        refine mm_B ok_Sc_cell 23 3 (45, [some (.ref 0), some (.int (nI k)), some (.int (nI j)), some (.int v)], [.int (nI k), .ref 45], (hp_SH ++ dy, g, r)) [] rfl trivial ?_
        refine mm_aald (t := 4) (n := 4) (v := .ref (46 + k)) (Or.inr (Or.inr rfl)) ((hp_at dy (by decide)).trans rfl) (nI_vi hl1 (by decide)) (rf_46 hl1 (by show g 45 (nI k).toNatClampNeg = _; rw [hlc]; exact e45)) (mm_at ok_Sc_cell (i := 26) rfl).1 ?_
        refine mm_B ok_Sc_cell 27 6 (54, [some (.ref 0), some (.int (nI k)), some (.int (nI j)), some (.int v)], [.int v, .int (g 51 ((nI k).toNatClampNeg)), .int (nI j), .ref (46 + k)], (hp_SH ++ dy, g, r)) [vp_in (nI k) 4] rfl (show vp_in (nI k) 4 from (nI_vi hl1 (by decide))) ?_
        rw [hlc, a1]
        have hplt : 46 + k < (hp_SH ++ dy).length := (List.getElem?_eq_some_iff.mp (sh_46 hl1)).1
        refine mm_cS (as := [.int (nI p.1), .int v]) (st := [.int (nI j), .ref (46 + k)]) cw_Sc_trimmed lk_Sc_270 sx_Sc_trimmed (mm_at ok_Sc_cell (i := 33) rfl).1 (ct_Sc_trimmed (hp_SH ++ dy, g, r) (nI p.1) v) (by decide) ⟨by omega, by omega⟩ (Nat.le_of_ble_eq_true rfl) (mm_vs_i (mm_vs_t hplt (mm_vs_b (b := 77) rfl (hp_len dy)))) (fun v h' hqq => ?_)
        obtain ⟨rfl, hqe⟩ := hqq; rw [hqe]
        refine mm_iast (sh_46 hl1) (nI_vi (show j < 40 by omega) (by decide)) (mm_at ok_Sc_cell (i := 34) rfl).1 ?_
        show mm_W _ _ _ _ _ _ _ (58, [some (.ref 0), some (.int (nI k)), some (.int (nI j)), some (.int v)], [], (hp_SH ++ dy, mm_up g (46 + k) ((nI j).toNatClampNeg) (f_Sc_trimmed (nI p.1) v), r))
        rw [nI_clamp (show j < 2 ^ 31 by omega)]
        refine mm_B ok_Sc_cell 35 1 (59, [some (.ref 0), some (.int (nI k)), some (.int (nI j)), some (.int v)], [.int 1], (hp_SH ++ dy, mm_up g (46 + k) j (f_Sc_trimmed (nI p.1) v), r)) [] rfl trivial ?_
        have hcs : cs1 (mm_up g (46 + k) j (f_Sc_trimmed (nI p.1) v)) k (some (p.1, p.2.1, uf_ p.2.2 j (f_Sc_trimmed (nI p.1) v))) := ⟨by rw [up_off (by omega)]; exact a1, a2, by rw [up_off (by omega)]; exact a3, a4, fun i hi => by
          show _ = uf_ p.2.2 j (f_Sc_trimmed (nI p.1) v) i
          unfold uf_
          by_cases e : i = j
          · rw [if_pos e, e, mm_up_at]
          · rw [if_neg e, up_off (by omega)]; exact a5 i hi⟩
        exact mm_ri rfl (mm_at ok_Sc_cell (i := 36) rfl).1 ⟨Nat.le_refl _, Nat.le_refl _⟩ (RC_g rfl (CI_sh hI hl1 hcs (fun a x h => by rw [up_off (by omega)])) (fun a x h1 h2 => by rw [up_off (by omega)]))
theorem cm_cell (dy : List mm_Sh) (g : Nat → Nat → Int32) (r : (Nat → Nat → Int64) × Nat × (Nat → Int32)) {A : sA} (hI : MI (nr_ g) A) (hSI : SI A) (s i v : Int32) : mm_Ct 12 M_Mo_cell [.ref 52, .int s, .int i, .int v] (hp_SH ++ dy, g, r) 0 0 (RM dy g r (an_cell A s i v).2 (.int (an_cell A s i v).1)) := by
  have hI' := hI
  obtain ⟨hL, hK, hPl, hX, hB, hS, hIm⟩ := hI'
  have hR := dX_R hX
  have h4 := hL.2.1
  have h16 := p2_16 h4
  have h6 := hK.2.1
  have e10 : g 52 10 = nI A.1.1 := by rw [← nr_eq g (k := 52) (j := 10) rfl]; exact hL.1
  have e14 : g 52 14 = nI A.2.1.1 := by rw [← nr_eq g (k := 52) (j := 14) rfl]; exact hK.1
  have hpl : ∀ b, b < 6 → g 62 b = pl_c (A.2.2.1.1 b) := fun b hb => by rw [← nr_eq g (k := 62) (j := b) rfl]; exact (hPl b hb).1
  have hot : ∀ b, b < 6 → g 62 (6 + b) = pl_c (A.2.2.1.2 b) := fun b hb => by rw [← nr_eq g (k := 62) (j := 6 + b) rfl]; exact (hPl b hb).2
  have hpo : ∀ b l, b < 6 → A.2.2.1.1 b = some l → l < A.1.1 := fun b l hb h => hSI.1 b l hb (Or.inl h)
  refine mm_start pl_Mo (Nat.le_of_ble_eq_true rfl) ?_
  cases hx1 : ix_ 4 s with
  | none =>
    rw [show an_cell A s i v = (-2, A) by unfold an_cell; rw [hx1]]
    refine mm_B ok_Mo_cell 0 1 (1, [some (.ref 52), some (.int s), some (.int i), some (.int v)], [.int s], (hp_SH ++ dy, g, r)) [] rfl trivial ?_
    refine mm_cS (as := [.int s]) (st := []) cw_Mo_isSheet lk_Mo_323 sx_Mo_isSheet (mm_at ok_Mo_cell (i := 1) rfl).1 (ct_Mo_isSheet (hp_SH ++ dy, g, r) s) (by decide) ⟨by omega, by omega⟩ (Nat.le_of_ble_eq_true rfl) (mm_vs_b (b := 77) rfl (hp_len dy)) (fun v h' hqq => ?_)
    obtain ⟨rfl, hqe⟩ := hqq; rw [hqe]
    rw [ms_x s, hx1]
    refine mm_I ok_Mo_cell 2 0 4 [some (.ref 52), some (.int s), some (.int i), some (.int v)] [.int (iz_ none)] (hp_SH ++ dy, g, r) [] rfl trivial rfl rfl (fun q => False.elim (q rfl)) (fun _ => ?_)
    refine mm_B ok_Mo_cell 3 1 (9, [some (.ref 52), some (.int s), some (.int i), some (.int v)], [.int (-2)], (hp_SH ++ dy, g, r)) [] rfl trivial ?_
    exact mm_ri rfl (mm_at ok_Mo_cell (i := 4) rfl).1 ⟨Nat.le_refl _, Nat.le_refl _⟩ (RM_q rfl hI fr_.rf)
  | some k =>
    obtain ⟨hl1, rfl⟩ := ix_some (by omega) hx1
    have hlc := nI_clamp (show k < 2 ^ 31 by omega)
    have hs1 := ds1_g (dS_1 hS hl1)
    refine mm_B ok_Mo_cell 0 1 (1, [some (.ref 52), some (.int (nI k)), some (.int i), some (.int v)], [.int (nI k)], (hp_SH ++ dy, g, r)) [] rfl trivial ?_
    refine mm_cS (as := [.int (nI k)]) (st := []) cw_Mo_isSheet lk_Mo_323 sx_Mo_isSheet (mm_at ok_Mo_cell (i := 1) rfl).1 (ct_Mo_isSheet (hp_SH ++ dy, g, r) (nI k)) (by decide) ⟨by omega, by omega⟩ (Nat.le_of_ble_eq_true rfl) (mm_vs_b (b := 77) rfl (hp_len dy)) (fun v h' hqq => ?_)
    obtain ⟨rfl, hqe⟩ := hqq; rw [hqe]
    rw [ms_x (nI k), ix_at hl1 (by omega)]
    refine mm_I ok_Mo_cell 2 0 4 [some (.ref 52), some (.int (nI k)), some (.int i), some (.int v)] [.int (iz_ (some k))] (hp_SH ++ dy, g, r) [] rfl trivial rfl rfl (fun _ => ?_) (fun q => False.elim (one0 q))
    refine mm_B ok_Mo_cell 5 4 (16, [some (.ref 52), some (.int (nI k)), some (.int i), some (.int v)], [.int (g 73 ((nI k).toNatClampNeg))], (hp_SH ++ dy, g, r)) [vp_in (nI k) 4] rfl (show vp_in (nI k) 4 from (nI_vi hl1 (by decide))) ?_
    rw [hlc]
    cases hs : A.2.2.2.2.2.1 k with
    | none =>
      rw [hs] at hs1
      have h73 : g 73 k = 0 := hs1
      rw [show an_cell A (nI k) i v = (-11, A) by unfold an_cell; rw [hx1]; show (match A.2.2.2.2.2.1 k with | none => _ | some q => _) = _; rw [hs]]
      refine mm_I ok_Mo_cell 9 0 16 [some (.ref 52), some (.int (nI k)), some (.int i), some (.int v)] [.int (g 73 (k))] (hp_SH ++ dy, g, r) [] rfl trivial rfl rfl (fun q => False.elim (q h73)) (fun _ => ?_)
      refine mm_B ok_Mo_cell 10 1 (21, [some (.ref 52), some (.int (nI k)), some (.int i), some (.int v)], [.int (-11)], (hp_SH ++ dy, g, r)) [] rfl trivial ?_
      exact mm_ri rfl (mm_at ok_Mo_cell (i := 11) rfl).1 ⟨Nat.le_refl _, Nat.le_refl _⟩ (RM_q rfl hI fr_.rf)
    | some p =>
      rw [hs] at hs1
      obtain ⟨a0, a1, a2, a3, a4, a5⟩ := hs1
      have hun : ∀ z, ix_ p.2.1 i = z → an_cell A (nI k) i v = (match z with | none => (-12, A) | some j => (1, nx_sh A k (some (p.1, p.2.1, uf_ p.2.2 j (f_Sc_trimmed (nI p.1) v))))) := fun z hz => by
        unfold an_cell; rw [hx1]; show (match A.2.2.2.2.2.1 k with | none => _ | some q => _) = _; rw [hs]; show (match ix_ p.2.1 i with | none => _ | some j => _) = _; rw [hz]
      refine mm_I ok_Mo_cell 9 0 16 [some (.ref 52), some (.int (nI k)), some (.int i), some (.int v)] [.int (g 73 (k))] (hp_SH ++ dy, g, r) [] rfl trivial rfl rfl (fun _ => ?_) (fun q => False.elim (absurd (a0.symm.trans q) (by decide)))
      refine mm_B ok_Mo_cell 12 10 (34, [some (.ref 52), some (.int (nI k)), some (.int i), some (.int v)], [.long (((g 75 ((nI k).toNatClampNeg)) - 1)).toInt64, .long 0, .long (i).toInt64], (hp_SH ++ dy, g, r)) [vp_in (nI k) 4] rfl (show vp_in (nI k) 4 from (nI_vi hl1 (by decide))) ?_
      rw [hlc, a3]
      refine mm_cS (as := [.long (i).toInt64, .long 0, .long (((nI p.2.1) - 1)).toInt64]) (st := []) cw_Mo_in lk_Mo_100 sx_Mo_in (mm_at ok_Mo_cell (i := 22) rfl).1 (ct_Mo_in (hp_SH ++ dy, g, r) i.toInt64 0 (nI p.2.1 - 1).toInt64) (by decide) ⟨by omega, by omega⟩ (Nat.le_of_ble_eq_true rfl) (mm_vs_b (b := 77) rfl (hp_len dy)) (fun v h' hqq => ?_)
      obtain ⟨rfl, hqe⟩ := hqq; rw [hqe, i0_, in_ix (show p.2.1 < 2 ^ 31 by omega) i]
      cases hj : ix_ p.2.1 i with
      | none =>
        rw [hun none hj]
        refine mm_I ok_Mo_cell 23 0 37 [some (.ref 52), some (.int (nI k)), some (.int i), some (.int v)] [.int (iz_ none)] (hp_SH ++ dy, g, r) [] rfl trivial rfl rfl (fun q => False.elim (q rfl)) (fun _ => ?_)
        refine mm_B ok_Mo_cell 24 1 (42, [some (.ref 52), some (.int (nI k)), some (.int i), some (.int v)], [.int (-12)], (hp_SH ++ dy, g, r)) [] rfl trivial ?_
        exact mm_ri rfl (mm_at ok_Mo_cell (i := 25) rfl).1 ⟨Nat.le_refl _, Nat.le_refl _⟩ (RM_q rfl hI fr_.rf)
      | some j =>
        rw [hun (some j) hj]
        obtain ⟨hj1, rfl⟩ := ix_some (by omega) hj
        have e1 : (40 : Int32) * nI k + nI j = nI (40 * k + j) := by rw [show (40 : Int32) * nI k = nI (40 * k) from (Int32.ofNat_mul 40 k).symm, nI_add]
        refine mm_I ok_Mo_cell 23 0 37 [some (.ref 52), some (.int (nI k)), some (.int (nI j)), some (.int v)] [.int (iz_ (some j))] (hp_SH ++ dy, g, r) [] rfl trivial rfl rfl (fun _ => ?_) (fun q => False.elim (one0 q))
        have hend : ∀ w, w = f_Sc_trimmed (nI p.1) v → mm_W 12 M_Mo_cell 0 0 (RM dy g r (nx_sh A k (some (p.1, p.2.1, uf_ p.2.2 j (f_Sc_trimmed (nI p.1) v)))) (.int 1)) 0 0 (83, [some (.ref 52), some (.int (nI k)), some (.int (nI j)), some (.int v)], [.int w, .int (40 * nI k + nI j), .ref 76], (hp_SH ++ dy, g, r)) := fun w hw => by
          rw [e1]
          refine mm_B ok_Mo_cell 51 2 (85, [some (.ref 52), some (.int (nI k)), some (.int (nI j)), some (.int v)], [.int 1], (hp_SH ++ dy, mm_up g 76 ((nI (40 * k + j)).toNatClampNeg) w, r)) [vp_in (nI (40 * k + j)) 160] rfl (show vp_in (nI (40 * k + j)) 160 from (nI_vi (by omega) (by decide))) ?_
          rw [nI_clamp (show 40 * k + j < 2 ^ 31 by omega)]
          have hcs : ds1 (mm_up g 76 (40 * k + j) w) k (some (p.1, p.2.1, uf_ p.2.2 j (f_Sc_trimmed (nI p.1) v))) := ⟨by rw [up_off (by omega)]; exact a0, by rw [up_off (by omega)]; exact a1, a2, by rw [up_off (by omega)]; exact a3, a4, fun i hi => by
            show _ = uf_ p.2.2 j (f_Sc_trimmed (nI p.1) v) i
            unfold uf_
            have hi : i < p.2.1 := hi
            by_cases e : i = j
            · rw [if_pos e, e, mm_up_at, hw]
            · rw [if_neg e, up_off (by omega)]; exact a5 i hi⟩
          exact mm_ri rfl (mm_at ok_Mo_cell (i := 53) rfl).1 ⟨Nat.le_refl _, Nat.le_refl _⟩ (RM_g rfl (MI_sh hI hl1 hcs (fun a x h => by rw [up_off (by omega)])) (fun a x h => by rw [up_off (by omega)]))
        refine mm_B ok_Mo_cell 26 11 (59, [some (.ref 52), some (.int (nI k)), some (.int (nI j)), some (.int v)], [.int (g 74 ((nI k).toNatClampNeg)), .int ((40 * (nI k)) + (nI j)), .ref 76], (hp_SH ++ dy, g, r)) [vp_in (nI k) 4] rfl (show vp_in (nI k) 4 from (nI_vi hl1 (by decide))) ?_
        rw [hlc, a1]
        by_cases h0 : nI p.1 = 0
        · refine mm_I ok_Mo_cell 37 0 59 [some (.ref 52), some (.int (nI k)), some (.int (nI j)), some (.int v)] [.int (nI p.1), .int ((40 * (nI k)) + (nI j)), .ref 76] (hp_SH ++ dy, g, r) [] rfl trivial rfl rfl (fun q => False.elim (q h0)) (fun _ => ?_)
          refine mm_B ok_Mo_cell 38 3 (83, [some (.ref 52), some (.int (nI k)), some (.int (nI j)), some (.int v)], [.int v.toInt8.toInt32, .int ((40 * (nI k)) + (nI j)), .ref 76], (hp_SH ++ dy, g, r)) [] rfl trivial ?_
          exact hend _ (if_pos h0).symm
        · refine mm_I ok_Mo_cell 37 0 59 [some (.ref 52), some (.int (nI k)), some (.int (nI j)), some (.int v)] [.int (nI p.1), .int ((40 * (nI k)) + (nI j)), .ref 76] (hp_SH ++ dy, g, r) [] rfl trivial rfl rfl (fun _ => ?_) (fun q => False.elim (h0 q))
          refine mm_B ok_Mo_cell 41 5 (74, [some (.ref 52), some (.int (nI k)), some (.int (nI j)), some (.int v)], [.int 1, .int (g 74 ((nI k).toNatClampNeg)), .int ((40 * (nI k)) + (nI j)), .ref 76], (hp_SH ++ dy, g, r)) [vp_in (nI k) 4] rfl (show vp_in (nI k) 4 from (nI_vi hl1 (by decide))) ?_
          rw [hlc, a1]
          by_cases h1 : nI p.1 = 1
          · refine mm_I ok_Mo_cell 46 0 74 [some (.ref 52), some (.int (nI k)), some (.int (nI j)), some (.int v)] [.int 1, .int (nI p.1), .int ((40 * (nI k)) + (nI j)), .ref 76] (hp_SH ++ dy, g, r) [] rfl trivial rfl rfl (fun q => False.elim (q h1)) (fun _ => ?_)
            refine mm_B ok_Mo_cell 47 3 (83, [some (.ref 52), some (.int (nI k)), some (.int (nI j)), some (.int v)], [.int v.toInt16.toInt32, .int ((40 * (nI k)) + (nI j)), .ref 76], (hp_SH ++ dy, g, r)) [] rfl trivial ?_
            exact hend _ ((if_neg h0).trans (if_pos h1)).symm
          · refine mm_I ok_Mo_cell 46 0 74 [some (.ref 52), some (.int (nI k)), some (.int (nI j)), some (.int v)] [.int 1, .int (nI p.1), .int ((40 * (nI k)) + (nI j)), .ref 76] (hp_SH ++ dy, g, r) [] rfl trivial rfl rfl (fun _ => ?_) (fun q => False.elim (h1 q))
            refine mm_B ok_Mo_cell 50 1 (83, [some (.ref 52), some (.int (nI k)), some (.int (nI j)), some (.int v)], [.int v, .int ((40 * (nI k)) + (nI j)), .ref 76], (hp_SH ++ dy, g, r)) [] rfl trivial ?_
            exact hend _ ((if_neg h0).trans (if_neg h1)).symm

