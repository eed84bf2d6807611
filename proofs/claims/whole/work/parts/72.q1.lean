/-! ===== the program's calls: given, has, heard, points, best, known, drawn ===== -/
abbrev aC (A : sA) : Nat → List Int32 := A.2.2.2.1.2.1 A.2.2.2.1.2.2
theorem cz_f1 : ∀ k j, cz_ k j = false → f1_ k j = false := cz_of f1_nr (fun k j h => by unfold f1_; rw [beq_false_of_ne (show k ≠ 13 by omega), beq_false_of_ne (show k ≠ 14 by omega)]; rfl)
def d43 (k j : Nat) : Bool := f1_ k j || k == 43
theorem d43_f1 : ∀ k j, d43 k j = false → f1_ k j = false := fun k j h => (Bool.or_eq_false_iff.mp h).1
theorem d43_nr : ∀ k j, nr_s k j = false → d43 k j = false := by
  intro k j h
  unfold d43
  rw [f1_nr k j h]
  cases h43 : k == 43 with
  | true => rw [show k = 43 by simpa using h43] at h; cases h
  | false => rfl
theorem cz_43 : ∀ k j, cz_ k j = false → d43 k j = false := cz_of d43_nr (fun k j h => by unfold d43 f1_; rw [beq_false_of_ne (show k ≠ 13 by omega), beq_false_of_ne (show k ≠ 14 by omega), beq_false_of_ne (show k ≠ 43 by omega)]; rfl)
theorem g1_n {n : Nat} (hn : n + 1 < 2 ^ 31) {x : Int32} (h : ix_ (n + 1) x = none) : x < 0 ∨ nI n < x := (ix_none h).imp id (fun h => (gt_ge hn x).mpr h)
def an_given (A : sA) (r b : Int32) : Int32 := match ix_ 2 r, ix_ 6 b with
  | some r, some b => pl_c (if r = 0 then A.2.2.1.1 b else A.2.2.1.2 b)
  | _, _ => -2
noncomputable def an_has (A : sA) (c b : Int32) : Int32 := match ix_ A.2.1.1 c, ix_ 6 b with
  | some c, some b => nI (sp_has A.1 (sp_run A.1 (sp_H (aC A) A.2.1.2.2.2 c) A.2.2.1.1 (A.2.1.2.1 c) (A.2.1.2.2.1 c) (b + 1)).2 b)
  | _, _ => -2
noncomputable def an_heard (A : sA) (c l w : Int32) : Int32 := match ix_ A.2.1.1 c, ix_ A.1.1 l, ix_ 2 w with
  | some c, some l, some w => if w = 0 then nI ((sp_run A.1 (sp_H (aC A) A.2.1.2.2.2 c) A.2.2.1.1 (A.2.1.2.1 c) (A.2.1.2.2.1 c) 6).1 l) else nI ((sp_run A.1 (sp_H (aC A) A.2.1.2.2.2 c) A.2.2.1.1 (A.2.1.2.1 c) (A.2.1.2.2.1 c) 6).2 l) - 1
  | _, _, _ => -2
noncomputable def an_points (A : sA) (c : Int32) : Int32 := if c = -1 then nI (sp_all A.1 (aC A) A.2.1 A.2.2.1.1) else match ix_ A.2.1.1 c with
  | some c => nI (sp_pts A.1 (aC A) A.2.1 A.2.2.1.1 c)
  | none => -2
noncomputable def an_best (A : sA) (w : Int32) : Int32 := match ix_ 7 w with
  | some 0 => nI (bw_ A.1 (aC A) A.2.1)
  | some (b + 1) => pl_c (dec_ (A.1.1 + 1) (bc_ A.1 (aC A) A.2.1) b)
  | none => -2
noncomputable def an_known (A : sA) (l : Int32) : Int32 := match ix_ A.1.1 l with
  | some l => nI (sp_sum (sp_whb A.1 (aC A) A.2.1 A.2.2.1.1 l) A.2.1.1)
  | none => -2
/-- a plan with floods -/
def zz_ (s : Int32) : Nat → Int32
  | 0 => s
  | n + 1 => zz_ s n * 1103515245 + 12345
def dz11 (z : Int32) : Int32 := ((z.toUInt32 >>> ((11 : Int32).toUInt32 &&& Int32.toUInt32 31)).toInt32)
def dr_ (pl : Nat → Option Nat) (s w : Int32) (b : Nat) : Option Nat := if w ≤ dz11 (zz_ s (b + 1)) - dz11 (zz_ s (b + 1)) / 10 * 10 then pl b else none
noncomputable def an_drawn (A : sA) (s w : Int32) : Int32 := match ix_ 11 w with
  | some _ => nI (sp_all A.1 (aC A) A.2.1 (dr_ A.2.2.1.1 s w))
  | none => -2
theorem one0 {α : Prop} {l : Nat} (q : iz_ (some l) = 0) : α := absurd (show (1 : Int32) = 0 from q) (by decide)
theorem ct_Sc_planOf (dy : List mm_Sh) (g : Nat → Nat → Int32) (r : (Nat → Nat → Int64) × Nat × (Nat → Int32)) (x : Int32) : mm_Ct 1 M_Sc_planOf [.ref 0, .int x] (hp_SH ++ dy, g, r) 0 0 (fun v h' => v = some (.ref (if x = 0 then 9 else 10)) ∧ h' = (hp_SH ++ dy, g, r)) := by
  refine mm_start pl_Sc (Nat.le_of_ble_eq_true rfl) ?_
  refine mm_I ok_Sc_planOf 0 1 1 [some (.ref 0), some (.int x)] [.int x] (hp_SH ++ dy, g, r) [] rfl trivial rfl rfl (fun q => ?_) (fun q => ?_)
  · refine mm_B ok_Sc_planOf 7 4 (27, [some (.ref 0), some (.int x)], [.ref 10], (hp_SH ++ dy, g, r)) [] rfl trivial ?_
    exact mm_ra rfl (Or.inr ⟨_, rfl⟩) rfl (mm_at ok_Sc_planOf (i := 11) rfl).1 ⟨Nat.le_refl _, Nat.le_refl _⟩ (⟨by rw [if_neg q], rfl⟩)
  · refine mm_B ok_Sc_planOf 2 5 (27, [some (.ref 0), some (.int x)], [.ref 9], (hp_SH ++ dy, g, r)) [] rfl trivial ?_
    exact mm_ra rfl (Or.inr ⟨_, rfl⟩) rfl (mm_at ok_Sc_planOf (i := 11) rfl).1 ⟨Nat.le_refl _, Nat.le_refl _⟩ (⟨by rw [if_pos q], rfl⟩)
theorem cc_given (dy : List mm_Sh) (g : Nat → Nat → Int32) (r : (Nat → Nat → Int64) × Nat × (Nat → Int32)) {A : sA} (hI : CI dy (nr_ g) A) (hSI : SI A) (x b : Int32) : mm_Ct 12 M_Sc_given [.ref 0, .int x, .int b] (hp_SH ++ dy, g, r) 0 0 (RC dy g r A (.int (an_given A x b))) := by
  have hI' := hI
  obtain ⟨hL, hK, hPl, hX, hB, hS, hIm, hFd, hW⟩ := hI'
  have hR := cX_R hX
  have h4 := hL.2.1
  have h6 := hK.2.1
  have e20 : g 2 0 = nI A.1.1 := by rw [← nr_eq g (k := 2) (j := 0) rfl]; exact hL.1
  have e21 : g 2 1 = nI A.2.1.1 := by rw [← nr_eq g (k := 2) (j := 1) rfl]; exact hK.1
  have hpa : (hp_SH ++ dy)[9]? = some (.inl (0, 6)) := (hp_at dy (by decide)).trans rfl
  have hpl : ∀ b, b < 6 → g 9 b = pl_c (A.2.2.1.1 b) := fun b hb => by rw [← nr_eq g (k := 9) (j := b) rfl]; exact (hPl b hb).1
  have hot : ∀ b, b < 6 → g 10 b = pl_c (A.2.2.1.2 b) := fun b hb => by rw [← nr_eq g (k := 10) (j := b) rfl]; exact (hPl b hb).2
  have hpo : ∀ b l, b < 6 → A.2.2.1.1 b = some l → l < A.1.1 := fun b l hb h => hSI.1 b l hb (Or.inl h)
  refine mm_start pl_Sc (Nat.le_of_ble_eq_true rfl) ?_
  cases hx1 : ix_ 2 x with
  | none =>
    rw [show an_given A x b = (-2) by unfold an_given; rw [hx1]]
    refine mm_B ok_Sc_given 0 1 (1, [some (.ref 0), some (.int x), some (.int b)], [.int x], (hp_SH ++ dy, g, r)) [] rfl trivial ?_
    refine mm_cS (as := [.int x]) (st := []) cw_Sc_isRaft lk_Sc_139 sx_Sc_isRaft (mm_at ok_Sc_given (i := 1) rfl).1 (ct_Sc_isRaft (hp_SH ++ dy, g, r) x) (by decide) ⟨by omega, by omega⟩ (Nat.le_of_ble_eq_true rfl) (mm_vs_b (b := 77) rfl (hp_len dy)) (fun v h' hqq => ?_)
    obtain ⟨rfl, hqe⟩ := hqq; rw [hqe]
    rw [rx_ x, hx1]
    refine mm_I ok_Sc_given 2 0 4 [some (.ref 0), some (.int x), some (.int b)] [.int (iz_ none)] (hp_SH ++ dy, g, r) [] rfl trivial rfl rfl (fun _ => ?_) (fun q => False.elim (q rfl))
    refine mm_B ok_Sc_given 6 1 (16, [some (.ref 0), some (.int x), some (.int b)], [.int (-2)], (hp_SH ++ dy, g, r)) [] rfl trivial ?_
    exact mm_ri rfl (mm_at ok_Sc_given (i := 7) rfl).1 ⟨Nat.le_refl _, Nat.le_refl _⟩ (RC_q rfl hI fr_.rf)
  | some i =>
    obtain ⟨hl1, rfl⟩ := ix_some (by omega) hx1
    cases hx2 : ix_ 6 b with
    | none =>
      rw [show an_given A (nI i) b = (-2) by unfold an_given; rw [hx1, hx2]]
      refine mm_B ok_Sc_given 0 1 (1, [some (.ref 0), some (.int (nI i)), some (.int b)], [.int (nI i)], (hp_SH ++ dy, g, r)) [] rfl trivial ?_
      refine mm_cS (as := [.int (nI i)]) (st := []) cw_Sc_isRaft lk_Sc_139 sx_Sc_isRaft (mm_at ok_Sc_given (i := 1) rfl).1 (ct_Sc_isRaft (hp_SH ++ dy, g, r) (nI i)) (by decide) ⟨by omega, by omega⟩ (Nat.le_of_ble_eq_true rfl) (mm_vs_b (b := 77) rfl (hp_len dy)) (fun v h' hqq => ?_)
      obtain ⟨rfl, hqe⟩ := hqq; rw [hqe]
      rw [rx_ (nI i), ix_at hl1 (by omega)]
      refine mm_I ok_Sc_given 2 0 4 [some (.ref 0), some (.int (nI i)), some (.int b)] [.int (iz_ (some i))] (hp_SH ++ dy, g, r) [] rfl trivial rfl rfl (fun q => False.elim (one0 q)) (fun _ => ?_)
      refine mm_B ok_Sc_given 3 1 (8, [some (.ref 0), some (.int (nI i)), some (.int b)], [.int b], (hp_SH ++ dy, g, r)) [] rfl trivial ?_
      refine mm_cS (as := [.int b]) (st := []) cw_Sc_isBend lk_Sc_142 sx_Sc_isBend (mm_at ok_Sc_given (i := 4) rfl).1 (ct_Sc_isBend (hp_SH ++ dy, g, r) b) (by decide) ⟨by omega, by omega⟩ (Nat.le_of_ble_eq_true rfl) (mm_vs_b (b := 77) rfl (hp_len dy)) (fun v h' hqq => ?_)
      obtain ⟨rfl, hqe⟩ := hqq; rw [hqe]
      rw [bx_ b, hx2]
      refine mm_I ok_Sc_given 5 0 11 [some (.ref 0), some (.int (nI i)), some (.int b)] [.int (iz_ none)] (hp_SH ++ dy, g, r) [] rfl trivial rfl rfl (fun q => False.elim (q rfl)) (fun _ => ?_)
      refine mm_B ok_Sc_given 6 1 (16, [some (.ref 0), some (.int (nI i)), some (.int b)], [.int (-2)], (hp_SH ++ dy, g, r)) [] rfl trivial ?_
      exact mm_ri rfl (mm_at ok_Sc_given (i := 7) rfl).1 ⟨Nat.le_refl _, Nat.le_refl _⟩ (RC_q rfl hI fr_.rf)
    | some j =>
      obtain ⟨hl2, rfl⟩ := ix_some (by omega) hx2
      rw [show an_given A (nI i) (nI j) = pl_c (if i = 0 then A.2.2.1.1 j else A.2.2.1.2 j) from by unfold an_given; rw [hx1, hx2]]
      refine mm_B ok_Sc_given 0 1 (1, [some (.ref 0), some (.int (nI i)), some (.int (nI j))], [.int (nI i)], (hp_SH ++ dy, g, r)) [] rfl trivial ?_
      refine mm_cS (as := [.int (nI i)]) (st := []) cw_Sc_isRaft lk_Sc_139 sx_Sc_isRaft (mm_at ok_Sc_given (i := 1) rfl).1 (ct_Sc_isRaft (hp_SH ++ dy, g, r) (nI i)) (by decide) ⟨by omega, by omega⟩ (Nat.le_of_ble_eq_true rfl) (mm_vs_b (b := 77) rfl (hp_len dy)) (fun v h' hqq => ?_)
      obtain ⟨rfl, hqe⟩ := hqq; rw [hqe]
      rw [rx_ (nI i), ix_at hl1 (by omega)]
      refine mm_I ok_Sc_given 2 0 4 [some (.ref 0), some (.int (nI i)), some (.int (nI j))] [.int (iz_ (some i))] (hp_SH ++ dy, g, r) [] rfl trivial rfl rfl (fun q => False.elim (one0 q)) (fun _ => ?_)
      refine mm_B ok_Sc_given 3 1 (8, [some (.ref 0), some (.int (nI i)), some (.int (nI j))], [.int (nI j)], (hp_SH ++ dy, g, r)) [] rfl trivial ?_
      refine mm_cS (as := [.int (nI j)]) (st := []) cw_Sc_isBend lk_Sc_142 sx_Sc_isBend (mm_at ok_Sc_given (i := 4) rfl).1 (ct_Sc_isBend (hp_SH ++ dy, g, r) (nI j)) (by decide) ⟨by omega, by omega⟩ (Nat.le_of_ble_eq_true rfl) (mm_vs_b (b := 77) rfl (hp_len dy)) (fun v h' hqq => ?_)
      obtain ⟨rfl, hqe⟩ := hqq; rw [hqe]
      rw [bx_ (nI j), ix_at hl2 (by omega)]
      refine mm_I ok_Sc_given 5 0 11 [some (.ref 0), some (.int (nI i)), some (.int (nI j))] [.int (iz_ (some j))] (hp_SH ++ dy, g, r) [] rfl trivial rfl rfl (fun _ => ?_) (fun q => False.elim (one0 q))
      refine mm_B ok_Sc_given 8 2 (19, [some (.ref 0), some (.int (nI i)), some (.int (nI j))], [.int (nI i), .ref 0], (hp_SH ++ dy, g, r)) [] rfl trivial ?_
      refine mm_cV (as := [.int (nI i)]) (st := []) (q := 0) cw_Sc_planOf lk_Sc_145 in_Sc_planOf sl_Sc_planOf rfl rfl (mm_at ok_Sc_given (i := 10) rfl).1 (ct_Sc_planOf dy g r (nI i)) (by decide) ⟨by omega, by omega⟩ (Nat.le_of_ble_eq_true rfl) (mm_vs_b (b := 77) rfl (hp_len dy)) (fun v h' hqq => ?_)
      obtain ⟨rfl, hqe⟩ := hqq; rw [hqe]
      by_cases hi0 : i = 0
      · rw [if_pos hi0, if_pos (show nI i = 0 by rw [hi0]; rfl)]
        refine mm_B ok_Sc_given 11 2 (24, [some (.ref 0), some (.int (nI i)), some (.int (nI j))], [.int (g 9 ((nI j).toNatClampNeg))], (hp_SH ++ dy, g, r)) [vp_in (nI j) 6] rfl (show vp_in (nI j) 6 from (nI_vi hl2 (by decide))) ?_
        rw [nI_clamp (show j < 2 ^ 31 by omega), hpl j hl2]
        exact mm_ri rfl (mm_at ok_Sc_given (i := 13) rfl).1 ⟨Nat.le_refl _, Nat.le_refl _⟩ (RC_q rfl hI fr_.rf)
      · rw [if_neg hi0, if_neg (nI_ne0 (by omega) (by omega))]
        refine mm_B ok_Sc_given 11 2 (24, [some (.ref 0), some (.int (nI i)), some (.int (nI j))], [.int (g 10 ((nI j).toNatClampNeg))], (hp_SH ++ dy, g, r)) [vp_in (nI j) 6] rfl (show vp_in (nI j) 6 from (nI_vi hl2 (by decide))) ?_
        rw [nI_clamp (show j < 2 ^ 31 by omega), hot j hl2]
        exact mm_ri rfl (mm_at ok_Sc_given (i := 13) rfl).1 ⟨Nat.le_refl _, Nat.le_refl _⟩ (RC_q rfl hI fr_.rf)
theorem cc_has (dy : List mm_Sh) (g : Nat → Nat → Int32) (r : (Nat → Nat → Int64) × Nat × (Nat → Int32)) {A : sA} (hI : CI dy (nr_ g) A) (hSI : SI A) (x b : Int32) : mm_Ct 12 M_Sc_has [.ref 0, .int x, .int b] (hp_SH ++ dy, g, r) 0 0 (RC dy g r A (.int (an_has A x b))) := by
  have hI' := hI
  obtain ⟨hL, hK, hPl, hX, hB, hS, hIm, hFd, hW⟩ := hI'
  have hR := cX_R hX
  have h4 := hL.2.1
  have h6 := hK.2.1
  have e20 : g 2 0 = nI A.1.1 := by rw [← nr_eq g (k := 2) (j := 0) rfl]; exact hL.1
  have e21 : g 2 1 = nI A.2.1.1 := by rw [← nr_eq g (k := 2) (j := 1) rfl]; exact hK.1
  have hpa : (hp_SH ++ dy)[9]? = some (.inl (0, 6)) := (hp_at dy (by decide)).trans rfl
  have hpl : ∀ b, b < 6 → g 9 b = pl_c (A.2.2.1.1 b) := fun b hb => by rw [← nr_eq g (k := 9) (j := b) rfl]; exact (hPl b hb).1
  have hot : ∀ b, b < 6 → g 10 b = pl_c (A.2.2.1.2 b) := fun b hb => by rw [← nr_eq g (k := 10) (j := b) rfl]; exact (hPl b hb).2
  have hpo : ∀ b l, b < 6 → A.2.2.1.1 b = some l → l < A.1.1 := fun b l hb h => hSI.1 b l hb (Or.inl h)
  refine mm_start pl_Sc (Nat.le_of_ble_eq_true rfl) ?_
  cases hx1 : ix_ A.2.1.1 x with
  | none =>
    rw [show an_has A x b = (-2) by unfold an_has; rw [hx1]]
    refine mm_B ok_Sc_has 0 2 (2, [some (.ref 0), some (.int x), some (.int b)], [.int x, .ref 0], (hp_SH ++ dy, g, r)) [] rfl trivial ?_
    refine mm_cV (as := [.int x]) (st := []) (q := 0) cw_Sc_isChild lk_Sc_105 in_Sc_isChild sl_Sc_isChild rfl rfl (mm_at ok_Sc_has (i := 2) rfl).1 (ct_Sc_isChild dy g r x) (by decide) ⟨by omega, by omega⟩ (Nat.le_of_ble_eq_true rfl) (mm_vs_b (b := 77) rfl (hp_len dy)) (fun v h' hqq => ?_)
    obtain ⟨rfl, hqe⟩ := hqq; rw [hqe]
    rw [cx_ e21 x, hx1]
    refine mm_I ok_Sc_has 3 0 5 [some (.ref 0), some (.int x), some (.int b)] [.int (iz_ none)] (hp_SH ++ dy, g, r) [] rfl trivial rfl rfl (fun _ => ?_) (fun q => False.elim (q rfl))
    refine mm_B ok_Sc_has 7 1 (17, [some (.ref 0), some (.int x), some (.int b)], [.int (-2)], (hp_SH ++ dy, g, r)) [] rfl trivial ?_
    exact mm_ri rfl (mm_at ok_Sc_has (i := 8) rfl).1 ⟨Nat.le_refl _, Nat.le_refl _⟩ (RC_q rfl hI fr_.rf)
  | some i =>
    obtain ⟨hl1, rfl⟩ := ix_some (by omega) hx1
    cases hx2 : ix_ 6 b with
    | none =>
      rw [show an_has A (nI i) b = (-2) by unfold an_has; rw [hx1, hx2]]
      refine mm_B ok_Sc_has 0 2 (2, [some (.ref 0), some (.int (nI i)), some (.int b)], [.int (nI i), .ref 0], (hp_SH ++ dy, g, r)) [] rfl trivial ?_
      refine mm_cV (as := [.int (nI i)]) (st := []) (q := 0) cw_Sc_isChild lk_Sc_105 in_Sc_isChild sl_Sc_isChild rfl rfl (mm_at ok_Sc_has (i := 2) rfl).1 (ct_Sc_isChild dy g r (nI i)) (by decide) ⟨by omega, by omega⟩ (Nat.le_of_ble_eq_true rfl) (mm_vs_b (b := 77) rfl (hp_len dy)) (fun v h' hqq => ?_)
      obtain ⟨rfl, hqe⟩ := hqq; rw [hqe]
      rw [cx_ e21 (nI i), ix_at hl1 (by omega)]
      refine mm_I ok_Sc_has 3 0 5 [some (.ref 0), some (.int (nI i)), some (.int b)] [.int (iz_ (some i))] (hp_SH ++ dy, g, r) [] rfl trivial rfl rfl (fun q => False.elim (one0 q)) (fun _ => ?_)
      refine mm_B ok_Sc_has 4 1 (9, [some (.ref 0), some (.int (nI i)), some (.int b)], [.int b], (hp_SH ++ dy, g, r)) [] rfl trivial ?_
      refine mm_cS (as := [.int b]) (st := []) cw_Sc_isBend lk_Sc_142 sx_Sc_isBend (mm_at ok_Sc_has (i := 5) rfl).1 (ct_Sc_isBend (hp_SH ++ dy, g, r) b) (by decide) ⟨by omega, by omega⟩ (Nat.le_of_ble_eq_true rfl) (mm_vs_b (b := 77) rfl (hp_len dy)) (fun v h' hqq => ?_)
      obtain ⟨rfl, hqe⟩ := hqq; rw [hqe]
      rw [bx_ b, hx2]
      refine mm_I ok_Sc_has 6 0 12 [some (.ref 0), some (.int (nI i)), some (.int b)] [.int (iz_ none)] (hp_SH ++ dy, g, r) [] rfl trivial rfl rfl (fun q => False.elim (q rfl)) (fun _ => ?_)
      refine mm_B ok_Sc_has 7 1 (17, [some (.ref 0), some (.int (nI i)), some (.int b)], [.int (-2)], (hp_SH ++ dy, g, r)) [] rfl trivial ?_
      exact mm_ri rfl (mm_at ok_Sc_has (i := 8) rfl).1 ⟨Nat.le_refl _, Nat.le_refl _⟩ (RC_q rfl hI fr_.rf)
    | some j =>
      obtain ⟨hl2, rfl⟩ := ix_some (by omega) hx2
      rw [show an_has A (nI i) (nI j) = nI (sp_has A.1 (sp_run A.1 (sp_H (aC A) A.2.1.2.2.2 i) A.2.2.1.1 (A.2.1.2.1 i) (A.2.1.2.2.1 i) (j + 1)).2 j) from by unfold an_has; rw [hx1, hx2]]
      obtain ⟨k1, k2, k3, k4, k5⟩ := hK.2.2 i hl1
      have e6 : g 6 (nI i).toNatClampNeg = nI (A.2.1.2.1 i) := by rw [nI_clamp (by omega), ← nr_eq g (k := 6) (j := i) rfl]; exact k1
      have e7 : g 7 (nI i).toNatClampNeg = nI (A.2.1.2.2.1 i) := by rw [nI_clamp (by omega), ← nr_eq g (k := 7) (j := i) rfl]; exact k2
      refine mm_B ok_Sc_has 0 2 (2, [some (.ref 0), some (.int (nI i)), some (.int (nI j))], [.int (nI i), .ref 0], (hp_SH ++ dy, g, r)) [] rfl trivial ?_
      refine mm_cV (as := [.int (nI i)]) (st := []) (q := 0) cw_Sc_isChild lk_Sc_105 in_Sc_isChild sl_Sc_isChild rfl rfl (mm_at ok_Sc_has (i := 2) rfl).1 (ct_Sc_isChild dy g r (nI i)) (by decide) ⟨by omega, by omega⟩ (Nat.le_of_ble_eq_true rfl) (mm_vs_b (b := 77) rfl (hp_len dy)) (fun v h' hqq => ?_)
      obtain ⟨rfl, hqe⟩ := hqq; rw [hqe]
      rw [cx_ e21 (nI i), ix_at hl1 (by omega)]
      refine mm_I ok_Sc_has 3 0 5 [some (.ref 0), some (.int (nI i)), some (.int (nI j))] [.int (iz_ (some i))] (hp_SH ++ dy, g, r) [] rfl trivial rfl rfl (fun q => False.elim (one0 q)) (fun _ => ?_)
      refine mm_B ok_Sc_has 4 1 (9, [some (.ref 0), some (.int (nI i)), some (.int (nI j))], [.int (nI j)], (hp_SH ++ dy, g, r)) [] rfl trivial ?_
      refine mm_cS (as := [.int (nI j)]) (st := []) cw_Sc_isBend lk_Sc_142 sx_Sc_isBend (mm_at ok_Sc_has (i := 5) rfl).1 (ct_Sc_isBend (hp_SH ++ dy, g, r) (nI j)) (by decide) ⟨by omega, by omega⟩ (Nat.le_of_ble_eq_true rfl) (mm_vs_b (b := 77) rfl (hp_len dy)) (fun v h' hqq => ?_)
      obtain ⟨rfl, hqe⟩ := hqq; rw [hqe]
      rw [bx_ (nI j), ix_at hl2 (by omega)]
      refine mm_I ok_Sc_has 6 0 12 [some (.ref 0), some (.int (nI i)), some (.int (nI j))] [.int (iz_ (some j))] (hp_SH ++ dy, g, r) [] rfl trivial rfl rfl (fun _ => ?_) (fun q => False.elim (one0 q))
      refine mm_B ok_Sc_has 9 16 (48, [some (.ref 0), some (.int (nI i)), some (.int (nI j))], [.int (g 7 ((nI i).toNatClampNeg)), .int (g 6 ((nI i).toNatClampNeg)), .int (nI i), .int (nI j), .ref 1], (hp_SH ++ dy, g, r)) [vp_in (nI i) 6, vp_in (nI i) 6] rfl (show (vp_in (nI i) 6) ∧ (vp_in (nI i) 6) from ⟨(nI_vi (by omega) (by decide)), (nI_vi (by omega) (by decide))⟩) ?_
      rw [e6, e7]
      refine mm_cV (as := [.int (nI j), .int (nI i), .int (nI (A.2.1.2.1 i)), .int (nI (A.2.1.2.2.1 i))]) (st := []) (q := 1) cw_Sp_ownedBehind lk_Sc_171 in_Sp_ownedBehind sl_Sp_ownedBehind rfl rfl (mm_at ok_Sc_has (i := 25) rfl).1 (ct_Sp_ownedBehind dy g (nr_ g) r rfl hR hL (ag := A.2.1.2.2.2) (c := i) (b := j) (by omega) k5 (by omega) (by omega) k4 (fun b hb => (hPl b hb).1) hpo) (by decide) ⟨by omega, by omega⟩ (Nat.le_of_ble_eq_true rfl) (mm_vs_b (b := 77) rfl (hp_len dy)) (fun v h' hqq => ?_)
      obtain ⟨rfl, g1, hqe, hF1⟩ := hqq; rw [hqe]
      exact mm_ri rfl (mm_at ok_Sc_has (i := 26) rfl).1 ⟨Nat.le_refl _, Nat.le_refl _⟩ (RC_q rfl hI (hF1.mono cz_f1))
theorem cc_heard (dy : List mm_Sh) (g : Nat → Nat → Int32) (r : (Nat → Nat → Int64) × Nat × (Nat → Int32)) {A : sA} (hI : CI dy (nr_ g) A) (hSI : SI A) (x l w : Int32) : mm_Ct 12 M_Sc_heard [.ref 0, .int x, .int l, .int w] (hp_SH ++ dy, g, r) 0 0 (RC dy g r A (.int (an_heard A x l w))) := by
  have hI' := hI
  obtain ⟨hL, hK, hPl, hX, hB, hS, hIm, hFd, hW⟩ := hI'
  have hR := cX_R hX
  have h4 := hL.2.1
  have h6 := hK.2.1
  have e20 : g 2 0 = nI A.1.1 := by rw [← nr_eq g (k := 2) (j := 0) rfl]; exact hL.1
  have e21 : g 2 1 = nI A.2.1.1 := by rw [← nr_eq g (k := 2) (j := 1) rfl]; exact hK.1
  have hpa : (hp_SH ++ dy)[9]? = some (.inl (0, 6)) := (hp_at dy (by decide)).trans rfl
  have hpl : ∀ b, b < 6 → g 9 b = pl_c (A.2.2.1.1 b) := fun b hb => by rw [← nr_eq g (k := 9) (j := b) rfl]; exact (hPl b hb).1
  have hot : ∀ b, b < 6 → g 10 b = pl_c (A.2.2.1.2 b) := fun b hb => by rw [← nr_eq g (k := 10) (j := b) rfl]; exact (hPl b hb).2
  have hpo : ∀ b l, b < 6 → A.2.2.1.1 b = some l → l < A.1.1 := fun b l hb h => hSI.1 b l hb (Or.inl h)
  refine mm_start pl_Sc (Nat.le_of_ble_eq_true rfl) ?_
  cases hx1 : ix_ A.2.1.1 x with
  | none =>
    rw [show an_heard A x l w = (-2) by unfold an_heard; rw [hx1]]
    refine mm_B ok_Sc_heard 0 2 (2, [some (.ref 0), some (.int x), some (.int l), some (.int w), none, none], [.int x, .ref 0], (hp_SH ++ dy, g, r)) [] rfl trivial ?_
    refine mm_cV (as := [.int x]) (st := []) (q := 0) cw_Sc_isChild lk_Sc_105 in_Sc_isChild sl_Sc_isChild rfl rfl (mm_at ok_Sc_heard (i := 2) rfl).1 (ct_Sc_isChild dy g r x) (by decide) ⟨by omega, by omega⟩ (Nat.le_of_ble_eq_true rfl) (mm_vs_b (b := 77) rfl (hp_len dy)) (fun v h' hqq => ?_)
    obtain ⟨rfl, hqe⟩ := hqq; rw [hqe]
    rw [cx_ e21 x, hx1]
    refine mm_I ok_Sc_heard 3 0 5 [some (.ref 0), some (.int x), some (.int l), some (.int w), none, none] [.int (iz_ none)] (hp_SH ++ dy, g, r) [] rfl trivial rfl rfl (fun _ => ?_) (fun q => False.elim (q rfl))
    refine mm_B ok_Sc_heard 13 1 (27, [some (.ref 0), some (.int x), some (.int l), some (.int w), none, none], [.int (-2)], (hp_SH ++ dy, g, r)) [] rfl trivial ?_
    exact mm_ri rfl (mm_at ok_Sc_heard (i := 14) rfl).1 ⟨Nat.le_refl _, Nat.le_refl _⟩ (RC_q rfl hI fr_.rf)
  | some i =>
    obtain ⟨hl1, rfl⟩ := ix_some (by omega) hx1
    cases hx2 : ix_ A.1.1 l with
    | none =>
      rw [show an_heard A (nI i) l w = (-2) by unfold an_heard; rw [hx1, hx2]]
      refine mm_B ok_Sc_heard 0 2 (2, [some (.ref 0), some (.int (nI i)), some (.int l), some (.int w), none, none], [.int (nI i), .ref 0], (hp_SH ++ dy, g, r)) [] rfl trivial ?_
      refine mm_cV (as := [.int (nI i)]) (st := []) (q := 0) cw_Sc_isChild lk_Sc_105 in_Sc_isChild sl_Sc_isChild rfl rfl (mm_at ok_Sc_heard (i := 2) rfl).1 (ct_Sc_isChild dy g r (nI i)) (by decide) ⟨by omega, by omega⟩ (Nat.le_of_ble_eq_true rfl) (mm_vs_b (b := 77) rfl (hp_len dy)) (fun v h' hqq => ?_)
      obtain ⟨rfl, hqe⟩ := hqq; rw [hqe]
      rw [cx_ e21 (nI i), ix_at hl1 (by omega)]
      refine mm_I ok_Sc_heard 3 0 5 [some (.ref 0), some (.int (nI i)), some (.int l), some (.int w), none, none] [.int (iz_ (some i))] (hp_SH ++ dy, g, r) [] rfl trivial rfl rfl (fun q => False.elim (one0 q)) (fun _ => ?_)
      refine mm_B ok_Sc_heard 4 2 (10, [some (.ref 0), some (.int (nI i)), some (.int l), some (.int w), none, none], [.int l, .ref 0], (hp_SH ++ dy, g, r)) [] rfl trivial ?_
      refine mm_cV (as := [.int l]) (st := []) (q := 0) cw_Sc_isLesson lk_Sc_102 in_Sc_isLesson sl_Sc_isLesson rfl rfl (mm_at ok_Sc_heard (i := 6) rfl).1 (ct_Sc_isLesson dy g r l) (by decide) ⟨by omega, by omega⟩ (Nat.le_of_ble_eq_true rfl) (mm_vs_b (b := 77) rfl (hp_len dy)) (fun v h' hqq => ?_)
      obtain ⟨rfl, hqe⟩ := hqq; rw [hqe]
      rw [lx_ e20 l, hx2]
      refine mm_I ok_Sc_heard 7 0 13 [some (.ref 0), some (.int (nI i)), some (.int l), some (.int w), none, none] [.int (iz_ none)] (hp_SH ++ dy, g, r) [] rfl trivial rfl rfl (fun _ => ?_) (fun q => False.elim (q rfl))
      refine mm_B ok_Sc_heard 13 1 (27, [some (.ref 0), some (.int (nI i)), some (.int l), some (.int w), none, none], [.int (-2)], (hp_SH ++ dy, g, r)) [] rfl trivial ?_
      exact mm_ri rfl (mm_at ok_Sc_heard (i := 14) rfl).1 ⟨Nat.le_refl _, Nat.le_refl _⟩ (RC_q rfl hI fr_.rf)
    | some j =>
      obtain ⟨hl2, rfl⟩ := ix_some (by omega) hx2
      cases hx3 : ix_ 2 w with
      | none =>
        rw [show an_heard A (nI i) (nI j) w = (-2) by unfold an_heard; rw [hx1, hx2, hx3]]
        refine mm_B ok_Sc_heard 0 2 (2, [some (.ref 0), some (.int (nI i)), some (.int (nI j)), some (.int w), none, none], [.int (nI i), .ref 0], (hp_SH ++ dy, g, r)) [] rfl trivial ?_
        refine mm_cV (as := [.int (nI i)]) (st := []) (q := 0) cw_Sc_isChild lk_Sc_105 in_Sc_isChild sl_Sc_isChild rfl rfl (mm_at ok_Sc_heard (i := 2) rfl).1 (ct_Sc_isChild dy g r (nI i)) (by decide) ⟨by omega, by omega⟩ (Nat.le_of_ble_eq_true rfl) (mm_vs_b (b := 77) rfl (hp_len dy)) (fun v h' hqq => ?_)
        obtain ⟨rfl, hqe⟩ := hqq; rw [hqe]
        rw [cx_ e21 (nI i), ix_at hl1 (by omega)]
        refine mm_I ok_Sc_heard 3 0 5 [some (.ref 0), some (.int (nI i)), some (.int (nI j)), some (.int w), none, none] [.int (iz_ (some i))] (hp_SH ++ dy, g, r) [] rfl trivial rfl rfl (fun q => False.elim (one0 q)) (fun _ => ?_)
        refine mm_B ok_Sc_heard 4 2 (10, [some (.ref 0), some (.int (nI i)), some (.int (nI j)), some (.int w), none, none], [.int (nI j), .ref 0], (hp_SH ++ dy, g, r)) [] rfl trivial ?_
        refine mm_cV (as := [.int (nI j)]) (st := []) (q := 0) cw_Sc_isLesson lk_Sc_102 in_Sc_isLesson sl_Sc_isLesson rfl rfl (mm_at ok_Sc_heard (i := 6) rfl).1 (ct_Sc_isLesson dy g r (nI j)) (by decide) ⟨by omega, by omega⟩ (Nat.le_of_ble_eq_true rfl) (mm_vs_b (b := 77) rfl (hp_len dy)) (fun v h' hqq => ?_)
        obtain ⟨rfl, hqe⟩ := hqq; rw [hqe]
        rw [lx_ e20 (nI j), ix_at hl2 (by omega)]
        refine mm_I ok_Sc_heard 7 0 13 [some (.ref 0), some (.int (nI i)), some (.int (nI j)), some (.int w), none, none] [.int (iz_ (some j))] (hp_SH ++ dy, g, r) [] rfl trivial rfl rfl (fun q => False.elim (one0 q)) (fun _ => ?_)
        rcases g1_n (by decide) hx3 with hr | hr
        · refine mm_I ok_Sc_heard 8 1 17 [some (.ref 0), some (.int (nI i)), some (.int (nI j)), some (.int w), none, none] [.int w] (hp_SH ++ dy, g, r) [] rfl trivial rfl rfl (fun _ => ?_) (fun q => False.elim (q hr))
          refine mm_B ok_Sc_heard 13 1 (27, [some (.ref 0), some (.int (nI i)), some (.int (nI j)), some (.int w), none, none], [.int (-2)], (hp_SH ++ dy, g, r)) [] rfl trivial ?_
          exact mm_ri rfl (mm_at ok_Sc_heard (i := 14) rfl).1 ⟨Nat.le_refl _, Nat.le_refl _⟩ (RC_q rfl hI fr_.rf)
        · refine mm_I ok_Sc_heard 8 1 17 [some (.ref 0), some (.int (nI i)), some (.int (nI j)), some (.int w), none, none] [.int w] (hp_SH ++ dy, g, r) [] rfl trivial rfl rfl (fun q => False.elim (absurd (Int32.lt_trans hr q) (by decide))) (fun _ => ?_)
          refine mm_I ok_Sc_heard 10 2 22 [some (.ref 0), some (.int (nI i)), some (.int (nI j)), some (.int w), none, none] [.int 1, .int w] (hp_SH ++ dy, g, r) [] rfl trivial rfl rfl (fun q => False.elim (absurd hr (Int32.not_lt.mpr q))) (fun _ => ?_)
          refine mm_B ok_Sc_heard 13 1 (27, [some (.ref 0), some (.int (nI i)), some (.int (nI j)), some (.int w), none, none], [.int (-2)], (hp_SH ++ dy, g, r)) [] rfl trivial ?_
          exact mm_ri rfl (mm_at ok_Sc_heard (i := 14) rfl).1 ⟨Nat.le_refl _, Nat.le_refl _⟩ (RC_q rfl hI fr_.rf)
      | some m =>
        obtain ⟨hl3, rfl⟩ := ix_some (by omega) hx3
        rw [show an_heard A (nI i) (nI j) (nI m) = (if m = 0 then nI ((sp_run A.1 (sp_H (aC A) A.2.1.2.2.2 i) A.2.2.1.1 (A.2.1.2.1 i) (A.2.1.2.2.1 i) 6).1 j) else nI ((sp_run A.1 (sp_H (aC A) A.2.1.2.2.2 i) A.2.2.1.1 (A.2.1.2.1 i) (A.2.1.2.2.1 i) 6).2 j) - 1) from by unfold an_heard; rw [hx1, hx2, hx3]]
        obtain ⟨k1, k2, k3, k4, k5⟩ := hK.2.2 i hl1
        have e6 : g 6 (nI i).toNatClampNeg = nI (A.2.1.2.1 i) := by rw [nI_clamp (by omega), ← nr_eq g (k := 6) (j := i) rfl]; exact k1
        have e7 : g 7 (nI i).toNatClampNeg = nI (A.2.1.2.2.1 i) := by rw [nI_clamp (by omega), ← nr_eq g (k := 7) (j := i) rfl]; exact k2
        refine mm_B ok_Sc_heard 0 2 (2, [some (.ref 0), some (.int (nI i)), some (.int (nI j)), some (.int (nI m)), none, none], [.int (nI i), .ref 0], (hp_SH ++ dy, g, r)) [] rfl trivial ?_
        refine mm_cV (as := [.int (nI i)]) (st := []) (q := 0) cw_Sc_isChild lk_Sc_105 in_Sc_isChild sl_Sc_isChild rfl rfl (mm_at ok_Sc_heard (i := 2) rfl).1 (ct_Sc_isChild dy g r (nI i)) (by decide) ⟨by omega, by omega⟩ (Nat.le_of_ble_eq_true rfl) (mm_vs_b (b := 77) rfl (hp_len dy)) (fun v h' hqq => ?_)
        obtain ⟨rfl, hqe⟩ := hqq; rw [hqe]
        rw [cx_ e21 (nI i), ix_at hl1 (by omega)]
        refine mm_I ok_Sc_heard 3 0 5 [some (.ref 0), some (.int (nI i)), some (.int (nI j)), some (.int (nI m)), none, none] [.int (iz_ (some i))] (hp_SH ++ dy, g, r) [] rfl trivial rfl rfl (fun q => False.elim (one0 q)) (fun _ => ?_)
        refine mm_B ok_Sc_heard 4 2 (10, [some (.ref 0), some (.int (nI i)), some (.int (nI j)), some (.int (nI m)), none, none], [.int (nI j), .ref 0], (hp_SH ++ dy, g, r)) [] rfl trivial ?_
        refine mm_cV (as := [.int (nI j)]) (st := []) (q := 0) cw_Sc_isLesson lk_Sc_102 in_Sc_isLesson sl_Sc_isLesson rfl rfl (mm_at ok_Sc_heard (i := 6) rfl).1 (ct_Sc_isLesson dy g r (nI j)) (by decide) ⟨by omega, by omega⟩ (Nat.le_of_ble_eq_true rfl) (mm_vs_b (b := 77) rfl (hp_len dy)) (fun v h' hqq => ?_)
        obtain ⟨rfl, hqe⟩ := hqq; rw [hqe]
        rw [lx_ e20 (nI j), ix_at hl2 (by omega)]
        refine mm_I ok_Sc_heard 7 0 13 [some (.ref 0), some (.int (nI i)), some (.int (nI j)), some (.int (nI m)), none, none] [.int (iz_ (some j))] (hp_SH ++ dy, g, r) [] rfl trivial rfl rfl (fun q => False.elim (one0 q)) (fun _ => ?_)
        refine mm_I ok_Sc_heard 8 1 17 [some (.ref 0), some (.int (nI i)), some (.int (nI j)), some (.int (nI m)), none, none] [.int (nI m)] (hp_SH ++ dy, g, r) [] rfl trivial rfl rfl (fun q => False.elim (nI_pos (n := m) (by omega) q)) (fun _ => ?_)
        refine mm_I ok_Sc_heard 10 2 22 [some (.ref 0), some (.int (nI i)), some (.int (nI j)), some (.int (nI m)), none, none] [.int 1, .int (nI m)] (hp_SH ++ dy, g, r) [] rfl trivial rfl rfl (fun _ => ?_) (fun q => False.elim (q (nI_le (b := 1) (by omega) (by decide))))
        refine mm_B ok_Sc_heard 15 17 (61, [some (.ref 0), some (.int (nI i)), some (.int (nI j)), some (.int (nI m)), some (.ref 2), none], [.ref 9, .int (g 7 ((nI i).toNatClampNeg)), .int (g 6 ((nI i).toNatClampNeg)), .int (nI i), .ref 1], (hp_SH ++ dy, g, r)) [vp_in (nI i) 6, vp_in (nI i) 6] rfl (show (vp_in (nI i) 6) ∧ (vp_in (nI i) 6) from ⟨(nI_vi (by omega) (by decide)), (nI_vi (by omega) (by decide))⟩) ?_
        rw [e6, e7]
        refine mm_cV (as := [.int (nI i), .int (nI (A.2.1.2.1 i)), .int (nI (A.2.1.2.2.1 i)), .ref 9]) (st := []) (q := 1) cw_Sp_memoryOf lk_Sc_178 in_Sp_memoryOf sl_Sp_memoryOf rfl rfl (mm_at ok_Sc_heard (i := 32) rfl).1 (ct_Sp_memoryOf dy g (nr_ g) r rfl hR hL (ag := A.2.1.2.2.2) (c := i) (by omega) k5 (by omega) k4 hpa (fun _ => rfl) hpl hpo) (by decide) ⟨by omega, by omega⟩ (Nat.le_of_ble_eq_true rfl) (mm_vs_b (b := 77) rfl (hp_len dy)) (fun v h' hqq => ?_)
        obtain ⟨rfl, g1, hqe, hF1⟩ := hqq; rw [hqe]
        have hok := sp_run_ok A.1 (sp_H (aC A) A.2.1.2.2.2 i) A.2.2.1.1 (A.2.1.2.1 i) (A.2.1.2.2.1 i) (Nat.le_refl 6)
        by_cases hm : m = 0
        · rw [hm, if_pos rfl]
          refine mm_I ok_Sc_heard 33 2 67 [some (.ref 0), some (.int (nI i)), some (.int (nI j)), some (.int (nI 0)), some (.ref 2), some (.int (nI (sp_enc (sp_run A.1 (sp_H (aC A) A.2.1.2.2.2 i) A.2.2.1.1 (A.2.1.2.1 i) (A.2.1.2.2.1 i) 6))))] [.int (nI 0)] (hp_SH ++ dy, g1, r) [] rfl trivial rfl rfl (fun q => False.elim (q rfl)) (fun _ => ?_)
          refine mm_B ok_Sc_heard 36 2 (73, [some (.ref 0), some (.int (nI i)), some (.int (nI j)), some (.int (nI 0)), some (.ref 2), some (.int (nI (sp_enc (sp_run A.1 (sp_H (aC A) A.2.1.2.2.2 i) A.2.2.1.1 (A.2.1.2.1 i) (A.2.1.2.2.1 i) 6))))], [.int (nI j), .int (nI (sp_enc (sp_run A.1 (sp_H (aC A) A.2.1.2.2.2 i) A.2.2.1.1 (A.2.1.2.1 i) (A.2.1.2.2.1 i) 6)))], (hp_SH ++ dy, g1, r)) [] rfl trivial ?_
          refine mm_cS (as := [.int (nI (sp_enc (sp_run A.1 (sp_H (aC A) A.2.1.2.2.2 i) A.2.2.1.1 (A.2.1.2.1 i) (A.2.1.2.2.1 i) 6))), .int (nI j)]) (st := []) cw_Sp_timesHeard lk_Sc_182 sx_Sp_timesHeard (mm_at ok_Sc_heard (i := 38) rfl).1 (ct_Sp_timesHeard (hp_SH ++ dy, g1, r) (nI (sp_enc (sp_run A.1 (sp_H (aC A) A.2.1.2.2.2 i) A.2.2.1.1 (A.2.1.2.1 i) (A.2.1.2.2.1 i) 6))) (nI j)) (by decide) ⟨by omega, by omega⟩ (Nat.le_of_ble_eq_true rfl) (mm_vs_b (b := 77) rfl (hp_len dy)) (fun v h' hqq => ?_)
          obtain ⟨rfl, hqe⟩ := hqq; rw [hqe, me_times hok (by omega)]
          refine mm_B ok_Sc_heard 39 1 (85, [some (.ref 0), some (.int (nI i)), some (.int (nI j)), some (.int (nI 0)), some (.ref 2), some (.int (nI (sp_enc (sp_run A.1 (sp_H (aC A) A.2.1.2.2.2 i) A.2.2.1.1 (A.2.1.2.1 i) (A.2.1.2.2.1 i) 6))))], [.int (nI ((sp_run A.1 (sp_H (aC A) A.2.1.2.2.2 i) A.2.2.1.1 (A.2.1.2.1 i) (A.2.1.2.2.1 i) 6).1 j))], (hp_SH ++ dy, g1, r)) [] rfl trivial ?_
          exact mm_ri rfl (mm_at ok_Sc_heard (i := 43) rfl).1 ⟨Nat.le_refl _, Nat.le_refl _⟩ (RC_q rfl hI (hF1.mono cz_f1))
        · rw [if_neg hm]
          refine mm_I ok_Sc_heard 33 2 67 [some (.ref 0), some (.int (nI i)), some (.int (nI j)), some (.int (nI m)), some (.ref 2), some (.int (nI (sp_enc (sp_run A.1 (sp_H (aC A) A.2.1.2.2.2 i) A.2.2.1.1 (A.2.1.2.1 i) (A.2.1.2.2.1 i) 6))))] [.int (nI m)] (hp_SH ++ dy, g1, r) [] rfl trivial rfl rfl (fun _ => ?_) (fun q => False.elim (nI_ne0 (by omega) (by omega) q))
          refine mm_B ok_Sc_heard 40 2 (82, [some (.ref 0), some (.int (nI i)), some (.int (nI j)), some (.int (nI m)), some (.ref 2), some (.int (nI (sp_enc (sp_run A.1 (sp_H (aC A) A.2.1.2.2.2 i) A.2.2.1.1 (A.2.1.2.1 i) (A.2.1.2.2.1 i) 6))))], [.int (nI j), .int (nI (sp_enc (sp_run A.1 (sp_H (aC A) A.2.1.2.2.2 i) A.2.2.1.1 (A.2.1.2.1 i) (A.2.1.2.2.1 i) 6)))], (hp_SH ++ dy, g1, r)) [] rfl trivial ?_
          refine mm_cS (as := [.int (nI (sp_enc (sp_run A.1 (sp_H (aC A) A.2.1.2.2.2 i) A.2.2.1.1 (A.2.1.2.1 i) (A.2.1.2.2.1 i) 6))), .int (nI j)]) (st := []) cw_Sp_lastUnderstood lk_Sc_185 sx_Sp_lastUnderstood (mm_at ok_Sc_heard (i := 42) rfl).1 (ct_Sp_lastUnderstood (hp_SH ++ dy, g1, r) (nI (sp_enc (sp_run A.1 (sp_H (aC A) A.2.1.2.2.2 i) A.2.2.1.1 (A.2.1.2.1 i) (A.2.1.2.2.1 i) 6))) (nI j)) (by decide) ⟨by omega, by omega⟩ (Nat.le_of_ble_eq_true rfl) (mm_vs_b (b := 77) rfl (hp_len dy)) (fun v h' hqq => ?_)
          obtain ⟨rfl, hqe⟩ := hqq; rw [hqe, me_last hok (by omega)]
          exact mm_ri rfl (mm_at ok_Sc_heard (i := 43) rfl).1 ⟨Nat.le_refl _, Nat.le_refl _⟩ (RC_q rfl hI (hF1.mono cz_f1))
theorem cc_known (dy : List mm_Sh) (g : Nat → Nat → Int32) (r : (Nat → Nat → Int64) × Nat × (Nat → Int32)) {A : sA} (hI : CI dy (nr_ g) A) (hSI : SI A) (l : Int32) : mm_Ct 12 M_Sc_known [.ref 0, .int l] (hp_SH ++ dy, g, r) 0 0 (RC dy g r A (.int (an_known A l))) := by
  have hI' := hI
  obtain ⟨hL, hK, hPl, hX, hB, hS, hIm, hFd, hW⟩ := hI'
  have hR := cX_R hX
  have h4 := hL.2.1
  have h6 := hK.2.1
  have e20 : g 2 0 = nI A.1.1 := by rw [← nr_eq g (k := 2) (j := 0) rfl]; exact hL.1
  have e21 : g 2 1 = nI A.2.1.1 := by rw [← nr_eq g (k := 2) (j := 1) rfl]; exact hK.1
  have hpa : (hp_SH ++ dy)[9]? = some (.inl (0, 6)) := (hp_at dy (by decide)).trans rfl
  have hpl : ∀ b, b < 6 → g 9 b = pl_c (A.2.2.1.1 b) := fun b hb => by rw [← nr_eq g (k := 9) (j := b) rfl]; exact (hPl b hb).1
  have hot : ∀ b, b < 6 → g 10 b = pl_c (A.2.2.1.2 b) := fun b hb => by rw [← nr_eq g (k := 10) (j := b) rfl]; exact (hPl b hb).2
  have hpo : ∀ b l, b < 6 → A.2.2.1.1 b = some l → l < A.1.1 := fun b l hb h => hSI.1 b l hb (Or.inl h)
  refine mm_start pl_Sc (Nat.le_of_ble_eq_true rfl) ?_
  cases hx1 : ix_ A.1.1 l with
  | none =>
    rw [show an_known A l = (-2) by unfold an_known; rw [hx1]]
    refine mm_B ok_Sc_known 0 2 (2, [some (.ref 0), some (.int l)], [.int l, .ref 0], (hp_SH ++ dy, g, r)) [] rfl trivial ?_
    refine mm_cV (as := [.int l]) (st := []) (q := 0) cw_Sc_isLesson lk_Sc_102 in_Sc_isLesson sl_Sc_isLesson rfl rfl (mm_at ok_Sc_known (i := 2) rfl).1 (ct_Sc_isLesson dy g r l) (by decide) ⟨by omega, by omega⟩ (Nat.le_of_ble_eq_true rfl) (mm_vs_b (b := 77) rfl (hp_len dy)) (fun v h' hqq => ?_)
    obtain ⟨rfl, hqe⟩ := hqq; rw [hqe]
    rw [lx_ e20 l, hx1]
    refine mm_I ok_Sc_known 3 0 5 [some (.ref 0), some (.int l)] [.int (iz_ none)] (hp_SH ++ dy, g, r) [] rfl trivial rfl rfl (fun q => False.elim (q rfl)) (fun _ => ?_)
    refine mm_B ok_Sc_known 4 1 (10, [some (.ref 0), some (.int l)], [.int (-2)], (hp_SH ++ dy, g, r)) [] rfl trivial ?_
    exact mm_ri rfl (mm_at ok_Sc_known (i := 5) rfl).1 ⟨Nat.le_refl _, Nat.le_refl _⟩ (RC_q rfl hI fr_.rf)
  | some j =>
    obtain ⟨hl1, rfl⟩ := ix_some (by omega) hx1
    rw [show an_known A (nI j) = nI (sp_sum (sp_whb A.1 (aC A) A.2.1 A.2.2.1.1 j) A.2.1.1) from by unfold an_known; rw [hx1]]
    refine mm_B ok_Sc_known 0 2 (2, [some (.ref 0), some (.int (nI j))], [.int (nI j), .ref 0], (hp_SH ++ dy, g, r)) [] rfl trivial ?_
    refine mm_cV (as := [.int (nI j)]) (st := []) (q := 0) cw_Sc_isLesson lk_Sc_102 in_Sc_isLesson sl_Sc_isLesson rfl rfl (mm_at ok_Sc_known (i := 2) rfl).1 (ct_Sc_isLesson dy g r (nI j)) (by decide) ⟨by omega, by omega⟩ (Nat.le_of_ble_eq_true rfl) (mm_vs_b (b := 77) rfl (hp_len dy)) (fun v h' hqq => ?_)
    obtain ⟨rfl, hqe⟩ := hqq; rw [hqe]
    rw [lx_ e20 (nI j), ix_at hl1 (by omega)]
    refine mm_I ok_Sc_known 3 0 5 [some (.ref 0), some (.int (nI j))] [.int (iz_ (some j))] (hp_SH ++ dy, g, r) [] rfl trivial rfl rfl (fun _ => ?_) (fun q => False.elim (one0 q))
    refine mm_B ok_Sc_known 6 6 (23, [some (.ref 0), some (.int (nI j))], [.ref 9, .int (nI j), .ref 0], (hp_SH ++ dy, g, r)) [] rfl trivial ?_
    refine mm_cV (as := [.int (nI j), .ref 9]) (st := []) (q := 0) cw_Sc_whoHave lk_Sc_242 in_Sc_whoHave sl_Sc_whoHave rfl rfl (mm_at ok_Sc_known (i := 12) rfl).1 (ct_Sc_whoHave dy g (nr_ g) r rfl hR hL hK hl1 hpa (fun _ => rfl) hpl hpo) (by decide) ⟨by omega, by omega⟩ (Nat.le_of_ble_eq_true rfl) (mm_vs_b (b := 77) rfl (hp_len dy)) (fun v h' hqq => ?_)
    obtain ⟨rfl, g1, hqe, hF1⟩ := hqq; rw [hqe]
    exact mm_ri rfl (mm_at ok_Sc_known (i := 13) rfl).1 ⟨Nat.le_refl _, Nat.le_refl _⟩ (RC_q rfl hI (hF1.mono cz_f1))

