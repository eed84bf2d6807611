/-! ===== the program's calls: twice, change ===== -/
theorem pt_le {T : sp_T} {C : Nat → List Int32} {K : sp_K} {pl : Nat → Option Nat} {c : Nat} (h4 : T.1 ≤ 4) (h9 : ∀ l, l < T.1 → T.2.2.1 l ≤ 9) : sp_pts T C K pl c ≤ 800 := by
  have h1 : sp_pts T C K pl c ≤ T.1 * 200 := sum_le _ (fun l hl => by
    unfold sp_pt
    split
    · omega
    · have : sp_value T l ≤ 100 := sp_vl_le _ _ (h9 l hl)
      unfold sp_gn
      omega)
  have : T.1 * 200 ≤ 4 * 200 := Nat.mul_le_mul_right _ h4
  omega
theorem al_le {T : sp_T} {C : Nat → List Int32} {K : sp_K} {pl : Nat → Option Nat} (h4 : T.1 ≤ 4) (h9 : ∀ l, l < T.1 → T.2.2.1 l ≤ 9) (h6 : K.1 ≤ 6) : sp_all T C K pl ≤ 4800 := by
  have h1 : sp_all T C K pl ≤ K.1 * 800 := sum_le _ (fun c _ => pt_le h4 h9)
  have : K.1 * 800 ≤ 6 * 800 := Nat.mul_le_mul_right _ h6
  omega
/-- a plan with one bend changed -/
def pw_ (pl : Nat → Option Nat) (b l : Nat) : Nat → Option Nat := fun j => if j = b then some l else pl j
noncomputable def tw_ (T : sp_T) (C : Nat → List Int32) (K : sp_K) (pl : Nat → Option Nat) (l b : Nat) (st : Nat × Nat) : Nat × Nat := if st.1 < sp_all T C K (pw_ pl b l) then (sp_all T C K (pw_ pl b l), b + 1) else st
noncomputable def tw6 (T : sp_T) (C : Nat → List Int32) (K : sp_K) (pl : Nat → Option Nat) (l n : Nat) : Nat × Nat := bd_ (tw_ T C K pl l) n (sp_all T C K pl, 0)
theorem tw_in {T : sp_T} {C : Nat → List Int32} {K : sp_K} {pl : Nat → Option Nat} {l : Nat} (h4 : T.1 ≤ 4) (h9 : ∀ l, l < T.1 → T.2.2.1 l ≤ 9) (h6 : K.1 ≤ 6) : ∀ n, (tw6 T C K pl l n).1 ≤ 4800 ∧ (tw6 T C K pl l n).2 ≤ n
  | 0 => ⟨al_le h4 h9 h6, Nat.le_refl 0⟩
  | n + 1 => by
    obtain ⟨h1, h2⟩ := tw_in (C := C) (pl := pl) (l := l) h4 h9 h6 n
    show (tw_ T C K pl l n (tw6 T C K pl l n)).1 ≤ 4800 ∧ (tw_ T C K pl l n (tw6 T C K pl l n)).2 ≤ n + 1
    unfold tw_
    split
    · exact ⟨al_le h4 h9 h6, Nat.le_refl _⟩
    · exact ⟨h1, by omega⟩
noncomputable def an_twice (A : sA) (l w : Int32) : Int32 := match ix_ A.1.1 l, ix_ 2 w with
  | some l, some w => if w = 0 ∨ (tw6 A.1 (aC A) A.2.1 A.2.2.1.1 l 6).2 = 0 then nI (tw6 A.1 (aC A) A.2.1 A.2.2.1.1 l 6).2 - 1 else nI (tw6 A.1 (aC A) A.2.1 A.2.2.1.1 l 6).1
  | _, _ => -2
/-- the raft's plan up to a bend, the other's behind it -/
def cg_ (pl ot : Nat → Option Nat) (last : Nat) : Nat → Option Nat := fun b => if b ≤ last then pl b else ot b
noncomputable def cw_ (T : sp_T) (C : Nat → List Int32) (K : sp_K) (pl ot : Nat → Option Nat) (c d : Nat) (st : Nat × Nat) : Nat × Nat := if st.1 ≤ sp_pts T C K (cg_ pl ot (K.2.1 c + d)) c then (sp_pts T C K (cg_ pl ot (K.2.1 c + d)) c + 1, K.2.1 c + d + 1) else st
noncomputable def cwn (T : sp_T) (C : Nat → List Int32) (K : sp_K) (pl ot : Nat → Option Nat) (c n : Nat) : Nat × Nat := bd_ (cw_ T C K pl ot c) n (0, 0)
theorem cw_in {T : sp_T} {C : Nat → List Int32} {K : sp_K} {pl ot : Nat → Option Nat} {c : Nat} (h4 : T.1 ≤ 4) (h9 : ∀ l, l < T.1 → T.2.2.1 l ≤ 9) : ∀ n, (cwn T C K pl ot c n).1 ≤ 801
  | 0 => Nat.zero_le _
  | n + 1 => by
    have h1 := cw_in (C := C) (K := K) (pl := pl) (ot := ot) (c := c) h4 h9 n
    show (cw_ T C K pl ot c n (cwn T C K pl ot c n)).1 ≤ 801
    unfold cw_
    split
    · have := pt_le (C := C) (K := K) (pl := cg_ pl ot (K.2.1 c + n)) (c := c) h4 h9
      show _ + 1 ≤ 801
      omega
    · exact h1
noncomputable def an_change (A : sA) (c b : Int32) : Int32 := match ix_ A.2.1.1 c with
  | none => -2
  | some c => if b = -1 then nI (cwn A.1 (aC A) A.2.1 A.2.2.1.1 A.2.2.1.2 c (A.2.1.2.2.1 c + 1 - A.2.1.2.1 c)).2 - 1 else if b < nI (A.2.1.2.1 c) ∨ nI (A.2.1.2.2.1 c) < b then -2 else nI (sp_pts A.1 (aC A) A.2.1 (cg_ A.2.2.1.1 A.2.2.1.2 b.toNatClampNeg) c)
theorem fr_cp {s : Nat → Nat → Bool} {g g1 : Nat → Nat → Int32} {k0 k1 a b n : Nat} (h : fr_ s g g1) (hs : ∀ j, s k1 j = true) : fr_ s g (mm_cp g1 k0 k1 a b n) := fun k j q => by
  have : k ≠ k1 := fun e => by rw [e, hs j] at q; cases q
  simp only [mm_cp, beq_false_of_ne this]
  exact h k j q
theorem cp6 {g : Nat → Nat → Int32} {k0 k1 j : Nat} (hj : j < 6) : mm_cp g k0 k1 (Int32.toNatClampNeg 0) (Int32.toNatClampNeg 0) (Int32.toNatClampNeg 6) k1 j = g k0 j := by
  show (bif (k1 == k1) then va_cpy (g k0) (g k1) 0 0 6 j else _) = _
  simp [va_cpy, hj]
theorem h9_of {T : sp_T} {P : Nat → Nat → Int32} (h : rl_L T P) : ∀ l, l < T.1 → T.2.2.1 l ≤ 9 := fun l hl => (h.2.2.1 l hl).2.2.2.1
theorem d43_j : ∀ j, d43 43 j = true := fun _ => rfl
theorem cc_twice_go (dy : List mm_Sh) (g : Nat → Nat → Int32) (r : (Nat → Nat → Int64) × Nat × (Nat → Int32)) {A : sA} (hI : CI dy (nr_ g) A) (hSI : SI A) {l w : Nat} (hl : l < A.1.1) (hw : w < 2) (x : Int32) (hx : x = if w = 0 ∨ (tw6 A.1 (aC A) A.2.1 A.2.2.1.1 l 6).2 = 0 then nI (tw6 A.1 (aC A) A.2.1 A.2.2.1.1 l 6).2 - 1 else nI (tw6 A.1 (aC A) A.2.1 A.2.2.1.1 l 6).1) : ∀ (m b : Nat) (g1 : Nat → Nat → Int32), b + m = 6 → fr_ d43 g g1 → mm_W 12 M_Sc_twice 0 0 (RC dy g r A (.int x)) 0 0 (44, [some (.ref 0), some (.int (nI l)), some (.int (nI w)), some (.ref 9), some (.int (nI (tw6 A.1 (aC A) A.2.1 A.2.2.1.1 l b).1)), some (.int (nI (tw6 A.1 (aC A) A.2.1 A.2.2.1.1 l b).2 - 1)), some (.int (nI b)), none], [], (hp_SH ++ dy, g1, r)) := by
  have hI' := hI
  obtain ⟨hL, hK, hPl, hX, hB, hS, hIm, hFd, hW⟩ := hI'
  have hR := cX_R hX
  have h4 := hL.2.1
  have h6 := hK.2.1
  have h9 := h9_of hL
  have hpo : ∀ b l, b < 6 → A.2.2.1.1 b = some l → l < A.1.1 := fun b l hb h => hSI.1 b l hb (Or.inl h)
  have hb := tw_in (C := aC A) (pl := A.2.2.1.1) (l := l) h4 h9 h6
  intro m
  induction m with
  | zero =>
    intro b g1 hbm hF
    rw [show b = 6 by omega]
    have hb6 := hb 6
    generalize hst : tw6 A.1 (aC A) A.2.1 A.2.2.1.1 l 6 = st at hx hb6 ⊢
    refine mm_I ok_Sc_twice 24 2 48 [some (.ref 0), some (.int (nI l)), some (.int (nI w)), some (.ref 9), some (.int (nI st.1)), some (.int (nI st.2 - 1)), some (.int (nI 6)), none] [.int 6, .int (nI 6)] (hp_SH ++ dy, g1, r) [] rfl trivial rfl rfl (fun _ => ?_) (fun q => False.elim (q (by decide)))
    refine mm_I ok_Sc_twice 53 1 103 [some (.ref 0), some (.int (nI l)), some (.int (nI w)), some (.ref 9), some (.int (nI st.1)), some (.int (nI st.2 - 1)), some (.int (nI 6)), none] [.int (nI w)] (hp_SH ++ dy, g1, r) [] rfl trivial rfl rfl (fun hw0 => ?_) (fun hw0 => ?_)
    · rw [hx, if_pos (Or.inl (by rcases Nat.eq_zero_or_pos w with h | h; exact h; exact absurd hw0 (nI_ne0 (by omega) (by omega))))]
      refine mm_B ok_Sc_twice 58 2 (119, [some (.ref 0), some (.int (nI l)), some (.int (nI w)), some (.ref 9), some (.int (nI st.1)), some (.int (nI st.2 - 1)), some (.int (nI 6)), none], [.int (nI st.2 - 1)], (hp_SH ++ dy, g1, r)) [] rfl trivial ?_
      exact mm_ri rfl (mm_at ok_Sc_twice (i := 61) rfl).1 ⟨Nat.le_refl _, Nat.le_refl _⟩ (RC_q rfl hI (hF.mono cz_43))
    · have hw0' : ¬ w = 0 := fun e => hw0 (by rw [e]; rfl)
      by_cases h2 : st.2 = 0
      · rw [hx, if_pos (Or.inr h2)]
        refine mm_I ok_Sc_twice 55 2 109 [some (.ref 0), some (.int (nI l)), some (.int (nI w)), some (.ref 9), some (.int (nI st.1)), some (.int (nI st.2 - 1)), some (.int (nI 6)), none] [.int (-1), .int (nI st.2 - 1)] (hp_SH ++ dy, g1, r) [] rfl trivial rfl rfl (fun q => False.elim (q (by rw [h2]; rfl))) (fun _ => ?_)
        refine mm_B ok_Sc_twice 58 2 (119, [some (.ref 0), some (.int (nI l)), some (.int (nI w)), some (.ref 9), some (.int (nI st.1)), some (.int (nI st.2 - 1)), some (.int (nI 6)), none], [.int (nI st.2 - 1)], (hp_SH ++ dy, g1, r)) [] rfl trivial ?_
        exact mm_ri rfl (mm_at ok_Sc_twice (i := 61) rfl).1 ⟨Nat.le_refl _, Nat.le_refl _⟩ (RC_q rfl hI (hF.mono cz_43))
      · rw [hx, if_neg (fun q => q.elim hw0' h2)]
        refine mm_I ok_Sc_twice 55 2 109 [some (.ref 0), some (.int (nI l)), some (.int (nI w)), some (.ref 9), some (.int (nI st.1)), some (.int (nI st.2 - 1)), some (.int (nI 6)), none] [.int (-1), .int (nI st.2 - 1)] (hp_SH ++ dy, g1, r) [] rfl trivial rfl rfl (fun _ => ?_) (fun q => False.elim (m1_ne (l := st.2 - 1) (by omega) (by rw [← nI_sub (by omega)]; exact q)))
        refine mm_B ok_Sc_twice 60 1 (119, [some (.ref 0), some (.int (nI l)), some (.int (nI w)), some (.ref 9), some (.int (nI st.1)), some (.int (nI st.2 - 1)), some (.int (nI 6)), none], [.int (nI st.1)], (hp_SH ++ dy, g1, r)) [] rfl trivial ?_
        exact mm_ri rfl (mm_at ok_Sc_twice (i := 61) rfl).1 ⟨Nat.le_refl _, Nat.le_refl _⟩ (RC_q rfl hI (hF.mono cz_43))
  | succ m ih =>
    intro b g1 hbm hF
    have hb6 := hb b
    have hn : tw6 A.1 (aC A) A.2.1 A.2.2.1.1 l (b + 1) = tw_ A.1 (aC A) A.2.1 A.2.2.1.1 l b (tw6 A.1 (aC A) A.2.1 A.2.2.1.1 l b) := rfl
    have ih' := ih (b + 1)
    rw [hn] at ih'
    generalize hst : tw6 A.1 (aC A) A.2.1 A.2.2.1.1 l b = st at hb6 ih' ⊢
    have h43 : ∀ j, j < 6 → mm_up (mm_cp g1 9 43 (Int32.toNatClampNeg 0) (Int32.toNatClampNeg 0) (Int32.toNatClampNeg 6)) 43 b (nI l) 43 j = pl_c (pw_ A.2.2.1.1 b l j) := fun j hj => by
      unfold pw_
      by_cases e : j = b
      · rw [e, mm_up_at, if_pos rfl]; rfl
      · rw [mm_up_no e, cp6 hj, if_neg e, nr_at (hF.nr d43_nr rfl) 9 j rfl]
        exact (hPl j hj).1
    have hpo' : ∀ j l', j < 6 → pw_ A.2.2.1.1 b l j = some l' → l' < A.1.1 := fun j l' hj h => by
      unfold pw_ at h
      split at h
      · cases h; exact hl
      · exact hpo j l' hj h
    have hF2 : fr_ d43 g (mm_up (mm_cp g1 9 43 (Int32.toNatClampNeg 0) (Int32.toNatClampNeg 0) (Int32.toNatClampNeg 6)) 43 b (nI l)) := (fr_cp hF d43_j).up _ rfl
    refine mm_I ok_Sc_twice 24 2 48 [some (.ref 0), some (.int (nI l)), some (.int (nI w)), some (.ref 9), some (.int (nI st.1)), some (.int (nI st.2 - 1)), some (.int (nI b)), none] [.int 6, .int (nI b)] (hp_SH ++ dy, g1, r) [] rfl trivial rfl rfl (fun q => False.elim (nI_ge (b := 6) (show b < 6 by omega) (by decide) q)) (fun _ => ?_)
    refine mm_B ok_Sc_twice 27 6 (60, [some (.ref 0), some (.int (nI l)), some (.int (nI w)), some (.ref 9), some (.int (nI st.1)), some (.int (nI st.2 - 1)), some (.int (nI b)), none], [.int 6, .int 0, .ref 43, .int 0, .ref 9], (hp_SH ++ dy, g1, r)) [] rfl trivial ?_
    refine mm_acopy (k0 := 9) (k1 := 43) (n0 := 6) (n1 := 6) lk_Sc_206 nt_copy sx_copy ii_System ((hp_at dy (by decide)).trans rfl) ((hp_at dy (by decide)).trans rfl) (by decide) (by decide) (by decide) (by decide) (by decide) (by decide) (Nat.le_of_ble_eq_true rfl) (mm_at ok_Sc_twice (i := 33) rfl).1 ?_
    refine mm_B ok_Sc_twice 34 8 (76, [some (.ref 0), some (.int (nI l)), some (.int (nI w)), some (.ref 9), some (.int (nI st.1)), some (.int (nI st.2 - 1)), some (.int (nI b)), none], [.ref 43, .ref 0], (hp_SH ++ dy, mm_up (mm_cp g1 9 43 (Int32.toNatClampNeg 0) (Int32.toNatClampNeg 0) (Int32.toNatClampNeg 6)) 43 ((nI b).toNatClampNeg) (nI l), r)) [vp_in (nI b) 6] rfl (show vp_in (nI b) 6 from (nI_vi (show b < 6 by omega) (by decide))) ?_
    rw [nI_clamp (show b < 2 ^ 31 by omega)]
    refine mm_cV (as := [.ref 43]) (st := []) (q := 0) cw_Sc_pointsOfAll lk_Sc_188 in_Sc_pointsOfAll sl_Sc_pointsOfAll rfl rfl (mm_at ok_Sc_twice (i := 42) rfl).1 (ct_Sc_pointsOfAll dy _ (nr_ g) r (hF2.nr d43_nr rfl) hR hL hK (pa := 43) ((hp_at dy (by decide)).trans rfl) (fun _ => rfl) h43 hpo') (by decide) ⟨by omega, by omega⟩ (Nat.le_of_ble_eq_true rfl) (mm_vs_b (b := 77) rfl (hp_len dy)) (fun v h' hqq => ?_)
    obtain ⟨rfl, g2, hqe, hF3⟩ := hqq; rw [hqe]
    have hF4 := hF2.tr (hF3.mono d43_f1)
    have ha := al_le (C := aC A) (pl := pw_ A.2.2.1.1 b l) h4 h9 h6
    unfold tw_ at ih'
    refine mm_I ok_Sc_twice 43 3 85 [some (.ref 0), some (.int (nI l)), some (.int (nI w)), some (.ref 9), some (.int (nI st.1)), some (.int (nI st.2 - 1)), some (.int (nI b)), some (.int (nI (sp_all A.1 (aC A) A.2.1 (pw_ A.2.2.1.1 b l))))] [.int (nI st.1), .int (nI (sp_all A.1 (aC A) A.2.1 (pw_ A.2.2.1.1 b l)))] (hp_SH ++ dy, g2, r) [] rfl trivial rfl rfl (fun hc => ?_) (fun hc => ?_)
    · rw [if_neg (fun q => absurd ((nI_leI (by omega) (by omega)).mp hc) (by omega))] at ih'
      refine mm_B ok_Sc_twice 51 2 (44, [some (.ref 0), some (.int (nI l)), some (.int (nI w)), some (.ref 9), some (.int (nI st.1)), some (.int (nI st.2 - 1)), some (.int ((nI b) + 1)), some (.int (nI (sp_all A.1 (aC A) A.2.1 (pw_ A.2.2.1.1 b l))))], [], (hp_SH ++ dy, g2, r)) [] rfl trivial ?_
      refine mm_fg [7] ?_
      rw [nI_1]
      exact ih' g2 (by omega) hF4
    · rw [if_pos (by have := mt (nI_leI (a := sp_all A.1 (aC A) A.2.1 (pw_ A.2.2.1.1 b l)) (b := st.1) (by omega) (by omega)).mpr hc; omega)] at ih'
      refine mm_B ok_Sc_twice 47 6 (44, [some (.ref 0), some (.int (nI l)), some (.int (nI w)), some (.ref 9), some (.int (nI (sp_all A.1 (aC A) A.2.1 (pw_ A.2.2.1.1 b l)))), some (.int (nI b)), some (.int ((nI b) + 1)), some (.int (nI (sp_all A.1 (aC A) A.2.1 (pw_ A.2.2.1.1 b l))))], [], (hp_SH ++ dy, g2, r)) [] rfl trivial ?_
      refine mm_fg [7] ?_
      rw [nI_1]
      have h8 := ih' g2 (by omega) hF4
      rw [show nI (sp_all A.1 (aC A) A.2.1 (pw_ A.2.2.1.1 b l), b + 1).2 - 1 = nI b from nI_pred b] at h8
      exact h8
theorem cc_twice (dy : List mm_Sh) (g : Nat → Nat → Int32) (r : (Nat → Nat → Int64) × Nat × (Nat → Int32)) {A : sA} (hI : CI dy (nr_ g) A) (hSI : SI A) (l w : Int32) : mm_Ct 12 M_Sc_twice [.ref 0, .int l, .int w] (hp_SH ++ dy, g, r) 0 0 (RC dy g r A (.int (an_twice A l w))) := by
  have hI' := hI
  obtain ⟨hL, hK, hPl, hX, hB, hS, hIm, hFd, hW⟩ := hI'
  have hR := cX_R hX
  have h4 := hL.2.1
  have h6 := hK.2.1
  have e20 : g 2 0 = nI A.1.1 := by rw [← nr_eq g (k := 2) (j := 0) rfl]; exact hL.1
  have e21 : g 2 1 = nI A.2.1.1 := by rw [← nr_eq g (k := 2) (j := 1) rfl]; exact hK.1
  have hpa : (hp_SH ++ dy)[9]? = some (.inl (0, 6)) := (hp_at dy (by decide)).trans rfl
  have hpl : ∀ b, b < 6 → g 9 b = pl_c (A.2.2.1.1 b) := fun b hb => by rw [← nr_eq g (k := 9) (j := b) rfl]; exact (hPl b hb).1
  have hot : ∀ b, b < 6 → g 10 b = pl_c (A.2.2.1.2 b) := fun b hb => by rw [← nr_eq g (k := 10) (j := b) rfl]; exact (hPl b hb).2
  have hpo : ∀ b l, b < 6 → A.2.2.1.1 b = some l → l < A.1.1 := fun b l hb h => hSI.1 b l hb (Or.inl h)
  refine mm_start pl_Sc (Nat.le_of_ble_eq_true rfl) ?_
  cases hx1 : ix_ A.1.1 l with
  | none =>
    rw [show an_twice A l w = (-2) by unfold an_twice; rw [hx1]]
    refine mm_B ok_Sc_twice 0 2 (2, [some (.ref 0), some (.int l), some (.int w), none, none, none, none, none], [.int l, .ref 0], (hp_SH ++ dy, g, r)) [] rfl trivial ?_
    refine mm_cV (as := [.int l]) (st := []) (q := 0) cw_Sc_isLesson lk_Sc_102 in_Sc_isLesson sl_Sc_isLesson rfl rfl (mm_at ok_Sc_twice (i := 2) rfl).1 (ct_Sc_isLesson dy g r l) (by decide) ⟨by omega, by omega⟩ (Nat.le_of_ble_eq_true rfl) (mm_vs_b (b := 77) rfl (hp_len dy)) (fun v h' hqq => ?_)
    obtain ⟨rfl, hqe⟩ := hqq; rw [hqe]
    rw [lx_ e20 l, hx1]
    refine mm_I ok_Sc_twice 3 0 5 [some (.ref 0), some (.int l), some (.int w), none, none, none, none, none] [.int (iz_ none)] (hp_SH ++ dy, g, r) [] rfl trivial rfl rfl (fun _ => ?_) (fun q => False.elim (q rfl))
    refine mm_B ok_Sc_twice 9 1 (19, [some (.ref 0), some (.int l), some (.int w), none, none, none, none, none], [.int (-2)], (hp_SH ++ dy, g, r)) [] rfl trivial ?_
    exact mm_ri rfl (mm_at ok_Sc_twice (i := 10) rfl).1 ⟨Nat.le_refl _, Nat.le_refl _⟩ (RC_q rfl hI fr_.rf)
  | some i =>
    obtain ⟨hl1, rfl⟩ := ix_some (by omega) hx1
    cases hx2 : ix_ 2 w with
    | none =>
      rw [show an_twice A (nI i) w = (-2) by unfold an_twice; rw [hx1, hx2]]
      refine mm_B ok_Sc_twice 0 2 (2, [some (.ref 0), some (.int (nI i)), some (.int w), none, none, none, none, none], [.int (nI i), .ref 0], (hp_SH ++ dy, g, r)) [] rfl trivial ?_
      refine mm_cV (as := [.int (nI i)]) (st := []) (q := 0) cw_Sc_isLesson lk_Sc_102 in_Sc_isLesson sl_Sc_isLesson rfl rfl (mm_at ok_Sc_twice (i := 2) rfl).1 (ct_Sc_isLesson dy g r (nI i)) (by decide) ⟨by omega, by omega⟩ (Nat.le_of_ble_eq_true rfl) (mm_vs_b (b := 77) rfl (hp_len dy)) (fun v h' hqq => ?_)
      obtain ⟨rfl, hqe⟩ := hqq; rw [hqe]
      rw [lx_ e20 (nI i), ix_at hl1 (by omega)]
      refine mm_I ok_Sc_twice 3 0 5 [some (.ref 0), some (.int (nI i)), some (.int w), none, none, none, none, none] [.int (iz_ (some i))] (hp_SH ++ dy, g, r) [] rfl trivial rfl rfl (fun q => False.elim (one0 q)) (fun _ => ?_)
      rcases g1_n (by decide) hx2 with hr | hr
      · refine mm_I ok_Sc_twice 4 1 9 [some (.ref 0), some (.int (nI i)), some (.int w), none, none, none, none, none] [.int w] (hp_SH ++ dy, g, r) [] rfl trivial rfl rfl (fun _ => ?_) (fun q => False.elim (q hr))
        refine mm_B ok_Sc_twice 9 1 (19, [some (.ref 0), some (.int (nI i)), some (.int w), none, none, none, none, none], [.int (-2)], (hp_SH ++ dy, g, r)) [] rfl trivial ?_
        exact mm_ri rfl (mm_at ok_Sc_twice (i := 10) rfl).1 ⟨Nat.le_refl _, Nat.le_refl _⟩ (RC_q rfl hI fr_.rf)
      · refine mm_I ok_Sc_twice 4 1 9 [some (.ref 0), some (.int (nI i)), some (.int w), none, none, none, none, none] [.int w] (hp_SH ++ dy, g, r) [] rfl trivial rfl rfl (fun q => False.elim (absurd (Int32.lt_trans hr q) (by decide))) (fun _ => ?_)
        refine mm_I ok_Sc_twice 6 2 14 [some (.ref 0), some (.int (nI i)), some (.int w), none, none, none, none, none] [.int 1, .int w] (hp_SH ++ dy, g, r) [] rfl trivial rfl rfl (fun q => False.elim (absurd hr (Int32.not_lt.mpr q))) (fun _ => ?_)
        refine mm_B ok_Sc_twice 9 1 (19, [some (.ref 0), some (.int (nI i)), some (.int w), none, none, none, none, none], [.int (-2)], (hp_SH ++ dy, g, r)) [] rfl trivial ?_
        exact mm_ri rfl (mm_at ok_Sc_twice (i := 10) rfl).1 ⟨Nat.le_refl _, Nat.le_refl _⟩ (RC_q rfl hI fr_.rf)
    | some j =>
      obtain ⟨hl2, rfl⟩ := ix_some (by omega) hx2
      rw [show an_twice A (nI i) (nI j) = (if j = 0 ∨ (tw6 A.1 (aC A) A.2.1 A.2.2.1.1 i 6).2 = 0 then nI (tw6 A.1 (aC A) A.2.1 A.2.2.1.1 i 6).2 - 1 else nI (tw6 A.1 (aC A) A.2.1 A.2.2.1.1 i 6).1) from by unfold an_twice; rw [hx1, hx2]]
      refine mm_B ok_Sc_twice 0 2 (2, [some (.ref 0), some (.int (nI i)), some (.int (nI j)), none, none, none, none, none], [.int (nI i), .ref 0], (hp_SH ++ dy, g, r)) [] rfl trivial ?_
      refine mm_cV (as := [.int (nI i)]) (st := []) (q := 0) cw_Sc_isLesson lk_Sc_102 in_Sc_isLesson sl_Sc_isLesson rfl rfl (mm_at ok_Sc_twice (i := 2) rfl).1 (ct_Sc_isLesson dy g r (nI i)) (by decide) ⟨by omega, by omega⟩ (Nat.le_of_ble_eq_true rfl) (mm_vs_b (b := 77) rfl (hp_len dy)) (fun v h' hqq => ?_)
      obtain ⟨rfl, hqe⟩ := hqq; rw [hqe]
      rw [lx_ e20 (nI i), ix_at hl1 (by omega)]
      refine mm_I ok_Sc_twice 3 0 5 [some (.ref 0), some (.int (nI i)), some (.int (nI j)), none, none, none, none, none] [.int (iz_ (some i))] (hp_SH ++ dy, g, r) [] rfl trivial rfl rfl (fun q => False.elim (one0 q)) (fun _ => ?_)
      refine mm_I ok_Sc_twice 4 1 9 [some (.ref 0), some (.int (nI i)), some (.int (nI j)), none, none, none, none, none] [.int (nI j)] (hp_SH ++ dy, g, r) [] rfl trivial rfl rfl (fun q => False.elim (nI_pos (n := j) (by omega) q)) (fun _ => ?_)
      refine mm_I ok_Sc_twice 6 2 14 [some (.ref 0), some (.int (nI i)), some (.int (nI j)), none, none, none, none, none] [.int 1, .int (nI j)] (hp_SH ++ dy, g, r) [] rfl trivial rfl rfl (fun _ => ?_) (fun q => False.elim (q (nI_le (b := 1) (by omega) (by decide))))
      refine mm_B ok_Sc_twice 11 7 (33, [some (.ref 0), some (.int (nI i)), some (.int (nI j)), some (.ref 9), none, none, none, none], [.ref 9, .ref 0], (hp_SH ++ dy, g, r)) [] rfl trivial ?_
      refine mm_cV (as := [.ref 9]) (st := []) (q := 0) cw_Sc_pointsOfAll lk_Sc_188 in_Sc_pointsOfAll sl_Sc_pointsOfAll rfl rfl (mm_at ok_Sc_twice (i := 18) rfl).1 (ct_Sc_pointsOfAll dy g (nr_ g) r rfl hR hL hK hpa (fun _ => rfl) hpl hpo) (by decide) ⟨by omega, by omega⟩ (Nat.le_of_ble_eq_true rfl) (mm_vs_b (b := 77) rfl (hp_len dy)) (fun v h' hqq => ?_)
      obtain ⟨rfl, g1, hqe, hF1⟩ := hqq; rw [hqe]
      refine mm_B ok_Sc_twice 19 5 (44, [some (.ref 0), some (.int (nI i)), some (.int (nI j)), some (.ref 9), some (.int (nI (sp_all A.1 (aC A) A.2.1 A.2.2.1.1))), some (.int (-1)), some (.int 0), none], [], (hp_SH ++ dy, g1, r)) [] rfl trivial ?_
      exact cc_twice_go dy g r hI hSI hl1 hl2 _ rfl 6 0 g1 rfl (hF1.mono d43_f1)

