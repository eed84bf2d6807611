/-! ===== the program's calls: exam, aboard ===== -/
theorem fu_cong {p q : Nat → Bool} : ∀ m k, (∀ j, k ≤ j → j < k + m → p j = q j) → fu_ p m k = fu_ q m k
  | 0, _, _ => rfl
  | m + 1, k, h => by
    unfold fu_
    rw [h k (Nat.le_refl k) (by omega), fu_cong m (k + 1) (fun j h1 h2 => h j (by omega) (by omega))]
/-- where a spring's bits are unlike those of a sheet -/
noncomputable def ex_p (A : sA) (c on off : Nat) (v : Nat → Int32) (b : Nat) : Bool := decide (¬ nI (sp_has A.1 (sp_run A.1 (sp_H (aC A) A.2.1.2.2.2 c) A.2.2.1.1 on off (b + 1)).2 b) = v b)
noncomputable def ex_u (A : sA) (c on off : Nat) (v : Nat → Int32) : Int32 := fu_ (ex_p A c on off v) 6 0
noncomputable def an_exam (A : sA) (c s : Int32) : Int32 := match ix_ A.2.1.1 c, ix_ 4 s with
  | some c, some s => (match A.2.2.2.2.2.1 s with
    | none => -11
    | some q => if q.2.1 = 6 then ex_u A c (A.2.1.2.1 c) (A.2.1.2.2.1 c) q.2.2 else -2)
  | _, _ => -2
/-- the refusal: 0 is none -/
def an_rf (A : sA) (c s : Int32) : Int32 := match ix_ A.2.1.1 c, ix_ 4 s with
  | some _, some s => (match A.2.2.2.2.2.1 s with
    | none => -11
    | some q => if q.2.1 = 6 then 0 else -2)
  | _, _ => -2
noncomputable def ab_i (A : sA) (c : Nat) (v : Nat → Int32) (on d : Nat) (st : Nat × Nat) : Nat × Nat := if ex_u A c on (on + d) v = -1 then (st.1 + 1, if st.2 = 0 then 10 * on + (on + d) + 1 else st.2) else st
noncomputable def ab_o (A : sA) (c : Nat) (v : Nat → Int32) (on : Nat) (st : Nat × Nat) : Nat × Nat := bd_ (ab_i A c v on) (6 - on) st
noncomputable def ab_ (A : sA) (c : Nat) (v : Nat → Int32) (n : Nat) : Nat × Nat := bd_ (ab_o A c v) n (0, 0)
theorem ab_100 {on d : Nat} (hon : on < 6) (hd : on + (d + 1) ≤ 6) : 10 * on + (on + d) + 1 < 100 := by omega
theorem ab_i_le {A : sA} {c : Nat} {v : Nat → Int32} {on : Nat} (hon : on < 6) {st : Nat × Nat} (h2 : st.2 < 100) : ∀ d, on + d ≤ 6 → (bd_ (ab_i A c v on) d st).2 < 100
  | 0, _ => h2
  | d + 1, hd => by
    have := ab_i_le (A := A) (c := c) (v := v) hon h2 d (by omega)
    show (ab_i A c v on d (bd_ (ab_i A c v on) d st)).2 < 100
    unfold ab_i at this ⊢
    split
    · show (if _ then 10 * on + (on + d) + 1 else _) < 100
      split
      · exact ab_100 hon hd
      · exact this
    · exact this
theorem ab_le {A : sA} {c : Nat} {v : Nat → Int32} : ∀ n, n ≤ 6 → (ab_ A c v n).2 < 100
  | 0, _ => by show 0 < 100; omega
  | n + 1, h => ab_i_le (by omega) (ab_le n (by omega)) _ (by omega)
noncomputable def an_aboard (A : sA) (c s w : Int32) : Int32 := match ix_ A.2.1.1 c, ix_ 4 s with
  | some c, some s => (match A.2.2.2.2.2.1 s with
    | none => -11
    | some q => if q.2.1 = 6 then (match ix_ 2 w with
      | none => -2
      | some w => if w = 0 then nI (ab_ A c q.2.2 6).1 else nI (ab_ A c q.2.2 6).2 - 1) else -2)
  | _, _ => -2
theorem ct_Sc_refusalOfExam (dy : List mm_Sh) (g : Nat → Nat → Int32) (r : (Nat → Nat → Int64) × Nat × (Nat → Int32)) {A : sA} (hI : CI dy (nr_ g) A) (c s : Int32) : mm_Ct 2 M_Sc_refusalOfExam [.ref 0, .int c, .int s] (hp_SH ++ dy, g, r) 0 0 (fun v h' => v = some (.int (an_rf A c s)) ∧ h' = (hp_SH ++ dy, g, r)) := by
  obtain ⟨hL, hK, hPl, hX, hB, hS, hIm, hFd, hW⟩ := hI
  have h6 := hK.2.1
  have e21 : g 2 1 = nI A.2.1.1 := by rw [← nr_eq g (k := 2) (j := 1) rfl]; exact hK.1
  refine mm_start pl_Sc (Nat.le_of_ble_eq_true rfl) ?_
  cases hx1 : ix_ A.2.1.1 c with
  | none =>
    rw [show an_rf A c s = -2 by unfold an_rf; rw [hx1]]
    refine mm_B ok_Sc_refusalOfExam 0 2 (2, [some (.ref 0), some (.int c), some (.int s)], [.int c, .ref 0], (hp_SH ++ dy, g, r)) [] rfl trivial ?_
    refine mm_cV (as := [.int c]) (st := []) (q := 0) cw_Sc_isChild lk_Sc_105 in_Sc_isChild sl_Sc_isChild rfl rfl (mm_at ok_Sc_refusalOfExam (i := 2) rfl).1 (ct_Sc_isChild dy g r c) (by decide) ⟨by omega, by omega⟩ (Nat.le_of_ble_eq_true rfl) (mm_vs_b (b := 77) rfl (hp_len dy)) (fun v h' hqq => ?_)
    obtain ⟨rfl, hqe⟩ := hqq; rw [hqe]
    rw [cx_ e21 c, hx1]
    refine mm_I ok_Sc_refusalOfExam 3 0 5 [some (.ref 0), some (.int c), some (.int s)] [.int (iz_ none)] (hp_SH ++ dy, g, r) [] rfl trivial rfl rfl (fun _ => ?_) (fun q => False.elim (q rfl))
    refine mm_B ok_Sc_refusalOfExam 7 1 (17, [some (.ref 0), some (.int c), some (.int s)], [.int (-2)], (hp_SH ++ dy, g, r)) [] rfl trivial ?_
    exact mm_ri rfl (mm_at ok_Sc_refusalOfExam (i := 8) rfl).1 ⟨Nat.le_refl _, Nat.le_refl _⟩ (⟨rfl, rfl⟩)
  | some i =>
    cases hx2 : ix_ 4 s with
    | none =>
      rw [show an_rf A c s = -2 by unfold an_rf; rw [hx1, hx2]]
      refine mm_B ok_Sc_refusalOfExam 0 2 (2, [some (.ref 0), some (.int c), some (.int s)], [.int c, .ref 0], (hp_SH ++ dy, g, r)) [] rfl trivial ?_
      refine mm_cV (as := [.int c]) (st := []) (q := 0) cw_Sc_isChild lk_Sc_105 in_Sc_isChild sl_Sc_isChild rfl rfl (mm_at ok_Sc_refusalOfExam (i := 2) rfl).1 (ct_Sc_isChild dy g r c) (by decide) ⟨by omega, by omega⟩ (Nat.le_of_ble_eq_true rfl) (mm_vs_b (b := 77) rfl (hp_len dy)) (fun v h' hqq => ?_)
      obtain ⟨rfl, hqe⟩ := hqq; rw [hqe]
      rw [cx_ e21 c, hx1]
      refine mm_I ok_Sc_refusalOfExam 3 0 5 [some (.ref 0), some (.int c), some (.int s)] [.int (iz_ (some i))] (hp_SH ++ dy, g, r) [] rfl trivial rfl rfl (fun q => False.elim (one0 q)) (fun _ => ?_)
      refine mm_B ok_Sc_refusalOfExam 4 1 (9, [some (.ref 0), some (.int c), some (.int s)], [.int s], (hp_SH ++ dy, g, r)) [] rfl trivial ?_
      refine mm_cS (as := [.int s]) (st := []) cw_Sc_isSheet lk_Sc_264 sx_Sc_isSheet (mm_at ok_Sc_refusalOfExam (i := 5) rfl).1 (ct_Sc_isSheet (hp_SH ++ dy, g, r) s) (by decide) ⟨by omega, by omega⟩ (Nat.le_of_ble_eq_true rfl) (mm_vs_b (b := 77) rfl (hp_len dy)) (fun v h' hqq => ?_)
      obtain ⟨rfl, hqe⟩ := hqq; rw [hqe]
      rw [sx_ s, hx2]
      refine mm_I ok_Sc_refusalOfExam 6 0 12 [some (.ref 0), some (.int c), some (.int s)] [.int (iz_ none)] (hp_SH ++ dy, g, r) [] rfl trivial rfl rfl (fun q => False.elim (q rfl)) (fun _ => ?_)
      refine mm_B ok_Sc_refusalOfExam 7 1 (17, [some (.ref 0), some (.int c), some (.int s)], [.int (-2)], (hp_SH ++ dy, g, r)) [] rfl trivial ?_
      exact mm_ri rfl (mm_at ok_Sc_refusalOfExam (i := 8) rfl).1 ⟨Nat.le_refl _, Nat.le_refl _⟩ (⟨rfl, rfl⟩)
    | some k =>
      obtain ⟨hk, rfl⟩ := ix_some (by decide) hx2
      have h51 := (hS k hk).2
      refine mm_B ok_Sc_refusalOfExam 0 2 (2, [some (.ref 0), some (.int c), some (.int (nI k))], [.int c, .ref 0], (hp_SH ++ dy, g, r)) [] rfl trivial ?_
      refine mm_cV (as := [.int c]) (st := []) (q := 0) cw_Sc_isChild lk_Sc_105 in_Sc_isChild sl_Sc_isChild rfl rfl (mm_at ok_Sc_refusalOfExam (i := 2) rfl).1 (ct_Sc_isChild dy g r c) (by decide) ⟨by omega, by omega⟩ (Nat.le_of_ble_eq_true rfl) (mm_vs_b (b := 77) rfl (hp_len dy)) (fun v h' hqq => ?_)
      obtain ⟨rfl, hqe⟩ := hqq; rw [hqe]
      rw [cx_ e21 c, hx1]
      refine mm_I ok_Sc_refusalOfExam 3 0 5 [some (.ref 0), some (.int c), some (.int (nI k))] [.int (iz_ (some i))] (hp_SH ++ dy, g, r) [] rfl trivial rfl rfl (fun q => False.elim (one0 q)) (fun _ => ?_)
      refine mm_B ok_Sc_refusalOfExam 4 1 (9, [some (.ref 0), some (.int c), some (.int (nI k))], [.int (nI k)], (hp_SH ++ dy, g, r)) [] rfl trivial ?_
      refine mm_cS (as := [.int (nI k)]) (st := []) cw_Sc_isSheet lk_Sc_264 sx_Sc_isSheet (mm_at ok_Sc_refusalOfExam (i := 5) rfl).1 (ct_Sc_isSheet (hp_SH ++ dy, g, r) (nI k)) (by decide) ⟨by omega, by omega⟩ (Nat.le_of_ble_eq_true rfl) (mm_vs_b (b := 77) rfl (hp_len dy)) (fun v h' hqq => ?_)
      obtain ⟨rfl, hqe⟩ := hqq; rw [hqe]
      rw [sx_ (nI k), hx2]
      refine mm_I ok_Sc_refusalOfExam 6 0 12 [some (.ref 0), some (.int c), some (.int (nI k))] [.int (iz_ (some k))] (hp_SH ++ dy, g, r) [] rfl trivial rfl rfl (fun _ => ?_) (fun q => False.elim (one0 q))
      refine mm_B ok_Sc_refusalOfExam 9 5 (25, [some (.ref 0), some (.int c), some (.int (nI k))], [.int (-1), .int (g 51 ((nI k).toNatClampNeg))], (hp_SH ++ dy, g, r)) [vp_in (nI k) 4] rfl (show vp_in (nI k) 4 from (nI_vi hk (by decide))) ?_
      cases hs : A.2.2.2.2.2.1 k with
      | none =>
        rw [hs] at h51
        have e51 : g 51 (nI k).toNatClampNeg = -1 := by rw [nI_clamp (by omega), ← nr_eq g (k := 51) (j := k) rfl]; exact h51
        rw [show an_rf A c (nI k) = -11 by unfold an_rf; rw [hx1, hx2]; show (match A.2.2.2.2.2.1 k with | none => _ | some q => _) = _; rw [hs], e51]
        refine mm_I ok_Sc_refusalOfExam 14 0 25 [some (.ref 0), some (.int c), some (.int (nI k))] [.int (-1), .int (-1)] (hp_SH ++ dy, g, r) [] rfl trivial rfl rfl (fun q => False.elim (q rfl)) (fun _ => ?_)
        refine mm_B ok_Sc_refusalOfExam 15 1 (30, [some (.ref 0), some (.int c), some (.int (nI k))], [.int (-11)], (hp_SH ++ dy, g, r)) [] rfl trivial ?_
        exact mm_ri rfl (mm_at ok_Sc_refusalOfExam (i := 16) rfl).1 ⟨Nat.le_refl _, Nat.le_refl _⟩ (⟨rfl, rfl⟩)
      | some p =>
        rw [hs] at h51
        obtain ⟨a1, a2, a3, a4, a5⟩ := h51
        have e51 : g 51 (nI k).toNatClampNeg = nI p.1 := by rw [nI_clamp (by omega), ← nr_eq g (k := 51) (j := k) rfl]; exact a1
        have e50 : g 50 (nI k).toNatClampNeg = nI p.2.1 := by rw [nI_clamp (by omega), ← nr_eq g (k := 50) (j := k) rfl]; exact a3
        have ea : an_rf A c (nI k) = if p.2.1 = 6 then 0 else -2 := by unfold an_rf; rw [hx1, hx2]; show (match A.2.2.2.2.2.1 k with | none => _ | some q => _) = _; rw [hs]
        rw [e51]
        refine mm_I ok_Sc_refusalOfExam 14 0 25 [some (.ref 0), some (.int c), some (.int (nI k))] [.int (-1), .int (nI p.1)] (hp_SH ++ dy, g, r) [] rfl trivial rfl rfl (fun _ => ?_) (fun q => False.elim (m1_ne (l := p.1) (by omega) q))
        refine mm_B ok_Sc_refusalOfExam 17 5 (39, [some (.ref 0), some (.int c), some (.int (nI k))], [.int 6, .int (g 50 ((nI k).toNatClampNeg))], (hp_SH ++ dy, g, r)) [vp_in (nI k) 4] rfl (show vp_in (nI k) 4 from (nI_vi hk (by decide))) ?_
        rw [e50]
        refine mm_I ok_Sc_refusalOfExam 22 0 39 [some (.ref 0), some (.int c), some (.int (nI k))] [.int 6, .int (nI p.2.1)] (hp_SH ++ dy, g, r) [] rfl trivial rfl rfl (fun h6' => ?_) (fun h6' => ?_)
        · rw [ea, if_neg (fun e => h6' (by rw [e]; rfl))]
          refine mm_B ok_Sc_refusalOfExam 25 1 (48, [some (.ref 0), some (.int c), some (.int (nI k))], [.int (-2)], (hp_SH ++ dy, g, r)) [] rfl trivial ?_
          exact mm_ri rfl (mm_at ok_Sc_refusalOfExam (i := 26) rfl).1 ⟨Nat.le_refl _, Nat.le_refl _⟩ (⟨rfl, rfl⟩)
        · rw [ea, if_pos ((nI_eq (b := 6) (by omega) (by decide)).mp h6')]
          refine mm_B ok_Sc_refusalOfExam 23 2 (48, [some (.ref 0), some (.int c), some (.int (nI k))], [.int 0], (hp_SH ++ dy, g, r)) [] rfl trivial ?_
          exact mm_ri rfl (mm_at ok_Sc_refusalOfExam (i := 26) rfl).1 ⟨Nat.le_refl _, Nat.le_refl _⟩ (⟨rfl, rfl⟩)
theorem fu_go (dy : List mm_Sh) (g P : Nat → Nat → Int32) (r : (Nat → Nat → Int64) × Nat × (Nat → Int32)) (hP : nr_ g = P) {C : Nat → List Int32} (hR : rt_R dy P C) {T : sp_T} (hL : rl_L T P) {ag : Nat → Nat} {c on off s : Nat} {pl : Nat → Option Nat} {v : Nat → Int32} (hc : c < 6) (hag : P 8 c = nI (ag c)) (hon : on ≤ 6) (hoff : off ≤ 5) (hpl : ∀ b, b < 6 → P 9 b = pl_c (pl b)) (hpo : ∀ b l, b < 6 → pl b = some l → l < T.1) (hs : s < 4) (hv : ∀ b, b < 6 → P (46 + s) b = v b) : ∀ (m k : Nat) (g1 : Nat → Nat → Int32), k + m = 6 → fr_ f1_ g g1 → mm_W 9 M_Sp_firstUnlike 0 0 (fun u h' => u = some (.int (fu_ (fun b => decide (¬ nI (sp_has T (sp_run T (sp_H C ag c) pl on off (b + 1)).2 b) = v b)) m k)) ∧ ∃ g', h' = (hp_SH ++ dy, g', r) ∧ fr_ f1_ g g') 0 0 (3, [some (.ref 1), some (.ref (46 + s)), some (.int (nI c)), some (.int (nI on)), some (.int (nI off)), some (.int (nI k))], [], (hp_SH ++ dy, g1, r)) := by
  have hsh : (hp_SH ++ dy)[46 + s]? = some (.inl (0, 40)) := by
    rw [hp_at dy (by omega)]
    rcases (show s = 0 ∨ s = 1 ∨ s = 2 ∨ s = 3 by omega) with rfl | rfl | rfl | rfl <;> rfl
  have hnr : ∀ b, nr_s (46 + s) b = false := fun b => by rcases (show s = 0 ∨ s = 1 ∨ s = 2 ∨ s = 3 by omega) with rfl | rfl | rfl | rfl <;> rfl
  have hplt : 46 + s < (hp_SH ++ dy).length := (List.getElem?_eq_some_iff.mp hsh).1
  intro m
  induction m with
  | zero =>
    intro k g1 hk hF
    refine mm_I ok_Sp_firstUnlike 2 2 7 [some (.ref 1), some (.ref (46 + s)), some (.int (nI c)), some (.int (nI on)), some (.int (nI off)), some (.int (nI k))] [.int 6, .int (nI k)] (hp_SH ++ dy, g1, r) [] rfl trivial rfl rfl (fun _ => ?_) (fun q => False.elim (q (nI_le (a := 6) (b := k) (by omega) (by omega))))
    refine mm_B ok_Sp_firstUnlike 19 1 (37, [some (.ref 1), some (.ref (46 + s)), some (.int (nI c)), some (.int (nI on)), some (.int (nI off)), some (.int (nI k))], [.int (-1)], (hp_SH ++ dy, g1, r)) [] rfl trivial ?_
    exact mm_ri rfl (mm_at ok_Sp_firstUnlike (i := 20) rfl).1 ⟨Nat.le_refl _, Nat.le_refl _⟩ (⟨rfl, g1, rfl, hF⟩)
  | succ m ih =>
    intro k g1 hk hF
    have hP1 := hF.nr f1_nr hP
    refine mm_I ok_Sp_firstUnlike 2 2 7 [some (.ref 1), some (.ref (46 + s)), some (.int (nI c)), some (.int (nI on)), some (.int (nI off)), some (.int (nI k))] [.int 6, .int (nI k)] (hp_SH ++ dy, g1, r) [] rfl trivial rfl rfl (fun q => False.elim (nI_ge (b := 6) (show k < 6 by omega) (by decide) q)) (fun _ => ?_)
    refine mm_B ok_Sp_firstUnlike 5 5 (17, [some (.ref 1), some (.ref (46 + s)), some (.int (nI c)), some (.int (nI on)), some (.int (nI off)), some (.int (nI k))], [.int (nI off), .int (nI on), .int (nI c), .int (nI k), .ref 1], (hp_SH ++ dy, g1, r)) [] rfl trivial ?_
    refine mm_cV (as := [.int (nI k), .int (nI c), .int (nI on), .int (nI off)]) (st := []) (q := 1) cw_Sp_ownedBehind lk_Sp_158 in_Sp_ownedBehind sl_Sp_ownedBehind rfl rfl (mm_at ok_Sp_firstUnlike (i := 10) rfl).1 (ct_Sp_ownedBehind dy g1 P r hP1 hR hL hc hag (b := k) (by omega) hon hoff hpl hpo) (by decide) ⟨by omega, by omega⟩ (Nat.le_of_ble_eq_true rfl) ⟨fun k hk => by simp only [List.mem_cons, Option.some.injEq, Value.ref.injEq, reduceCtorEq, List.not_mem_nil, or_false, false_or] at hk; rcases hk with rfl | rfl <;> first | exact hplt | exact Nat.lt_of_lt_of_le (by decide) (hp_len dy), (mm_vs_b (b := 77) (lv := []) rfl (hp_len dy)).2⟩ (fun v h' hqq => ?_)
    obtain ⟨rfl, g2, hqe, hF2⟩ := hqq; rw [hqe]
    have hF4 := hF.tr hF2
    have e46 : g2 (46 + s) k = v k := by rw [nr_at (hF4.nr f1_nr hP) (46 + s) k (hnr k)]; exact hv k (by omega)
    refine mm_B ok_Sp_firstUnlike 11 2 (23, [some (.ref 1), some (.ref (46 + s)), some (.int (nI c)), some (.int (nI on)), some (.int (nI off)), some (.int (nI k))], [.int (nI k), .ref (46 + s), .int (nI (sp_has T (sp_run T (sp_H C ag c) pl on off (k + 1)).2 k))], (hp_SH ++ dy, g2, r)) [] rfl trivial ?_
    refine mm_iald hsh (nI_vi (show k < 40 by omega) (by decide)) (mm_at ok_Sp_firstUnlike (i := 13) rfl).1 ?_
    show mm_W _ _ _ _ _ _ _ (_, _, .int (g2 (46 + s) (nI k).toNatClampNeg) :: _, _)
    rw [nI_clamp (show k < 2 ^ 31 by omega), e46]
    unfold fu_
    refine mm_I ok_Sp_firstUnlike 14 0 24 [some (.ref 1), some (.ref (46 + s)), some (.int (nI c)), some (.int (nI on)), some (.int (nI off)), some (.int (nI k))] [.int (v k), .int (nI (sp_has T (sp_run T (sp_H C ag c) pl on off (k + 1)).2 k))] (hp_SH ++ dy, g2, r) [] rfl trivial rfl rfl (fun hq => ?_) (fun hq => ?_)
    · rw [if_neg (fun e => absurd hq (of_decide_eq_true e))]
      refine mm_B ok_Sp_firstUnlike 17 2 (3, [some (.ref 1), some (.ref (46 + s)), some (.int (nI c)), some (.int (nI on)), some (.int (nI off)), some (.int ((nI k) + 1))], [], (hp_SH ++ dy, g2, r)) [] rfl trivial ?_
      rw [nI_1]
      exact ih (k + 1) g2 (by omega) hF4
    · rw [if_pos (decide_eq_true hq)]
      refine mm_B ok_Sp_firstUnlike 15 1 (29, [some (.ref 1), some (.ref (46 + s)), some (.int (nI c)), some (.int (nI on)), some (.int (nI off)), some (.int (nI k))], [.int (nI k)], (hp_SH ++ dy, g2, r)) [] rfl trivial ?_
      exact mm_ri rfl (mm_at ok_Sp_firstUnlike (i := 16) rfl).1 ⟨Nat.le_refl _, Nat.le_refl _⟩ (⟨rfl, g2, rfl, hF4⟩)
theorem ct_Sp_firstUnlike (dy : List mm_Sh) (g P : Nat → Nat → Int32) (r : (Nat → Nat → Int64) × Nat × (Nat → Int32)) (hP : nr_ g = P) {C : Nat → List Int32} (hR : rt_R dy P C) {T : sp_T} (hL : rl_L T P) {ag : Nat → Nat} {c on off s : Nat} {pl : Nat → Option Nat} {v : Nat → Int32} (hc : c < 6) (hag : P 8 c = nI (ag c)) (hon : on ≤ 6) (hoff : off ≤ 5) (hpl : ∀ b, b < 6 → P 9 b = pl_c (pl b)) (hpo : ∀ b l, b < 6 → pl b = some l → l < T.1) (hs : s < 4) (hv : ∀ b, b < 6 → P (46 + s) b = v b) : mm_Ct 9 M_Sp_firstUnlike [.ref 1, .ref (46 + s), .int (nI c), .int (nI on), .int (nI off)] (hp_SH ++ dy, g, r) 0 0 (fun u h' => u = some (.int (fu_ (fun b => decide (¬ nI (sp_has T (sp_run T (sp_H C ag c) pl on off (b + 1)).2 b) = v b)) 6 0)) ∧ ∃ g', h' = (hp_SH ++ dy, g', r) ∧ fr_ f1_ g g') := by
  have hsh : (hp_SH ++ dy)[46 + s]? = some (.inl (0, 40)) := by
    rw [hp_at dy (by omega)]
    rcases (show s = 0 ∨ s = 1 ∨ s = 2 ∨ s = 3 by omega) with rfl | rfl | rfl | rfl <;> rfl
  have hplt : 46 + s < (hp_SH ++ dy).length := (List.getElem?_eq_some_iff.mp hsh).1
  refine mm_start pl_Sp (Nat.le_of_ble_eq_true rfl) ?_
  refine mm_B ok_Sp_firstUnlike 0 2 (3, [some (.ref 1), some (.ref (46 + s)), some (.int (nI c)), some (.int (nI on)), some (.int (nI off)), some (.int 0)], [], (hp_SH ++ dy, g, r)) [] rfl trivial ?_
  exact fu_go dy g P r hP hR hL hc hag hon hoff hpl hpo hs hv 6 0 g rfl fr_.rf
theorem rf_c {A : sA} {c s : Int32} (h : ¬ an_rf A c s = 0) : an_exam A c s = an_rf A c s ∧ ∀ w, an_aboard A c s w = an_rf A c s := by
  unfold an_rf at h ⊢
  unfold an_exam an_aboard
  cases h1 : ix_ A.2.1.1 c with
  | none => exact ⟨rfl, fun _ => rfl⟩
  | some i =>
    cases h2 : ix_ 4 s with
    | none => exact ⟨rfl, fun _ => rfl⟩
    | some k =>
      rw [h1, h2] at h
      simp only [] at h ⊢
      cases h3 : A.2.2.2.2.2.1 k with
      | none => exact ⟨rfl, fun _ => rfl⟩
      | some p =>
        rw [h3] at h
        simp only [] at h ⊢
        by_cases h4 : p.2.1 = 6
        · rw [if_pos h4] at h
          exact absurd rfl h
        · exact ⟨by rw [if_neg h4, if_neg h4], fun _ => by rw [if_neg h4, if_neg h4]⟩
theorem rf_0 {A : sA} {c s : Int32} (h : an_rf A c s = 0) : ∃ i k p, i < A.2.1.1 ∧ k < 4 ∧ c = nI i ∧ s = nI k ∧ A.2.2.2.2.2.1 k = some p ∧ p.2.1 = 6 ∧ an_exam A c s = ex_u A i (A.2.1.2.1 i) (A.2.1.2.2.1 i) p.2.2 ∧ ∀ w, an_aboard A c s w = (match ix_ 2 w with
      | none => -2
      | some w => if w = 0 then nI (ab_ A i p.2.2 6).1 else nI (ab_ A i p.2.2 6).2 - 1) := by
  unfold an_rf at h
  unfold an_exam an_aboard
  cases h1 : ix_ A.2.1.1 c with
  | none => rw [h1] at h; exact absurd (show (-2 : Int32) = 0 from h) (by decide)
  | some i =>
    cases h2 : ix_ 4 s with
    | none => rw [h1, h2] at h; exact absurd (show (-2 : Int32) = 0 from h) (by decide)
    | some k =>
      rw [h1, h2] at h
      simp only [] at h ⊢
      cases h3 : A.2.2.2.2.2.1 k with
      | none => rw [h3] at h; exact absurd h (by decide)
      | some p =>
        rw [h3] at h
        simp only [] at h ⊢
        by_cases h4 : p.2.1 = 6
        · have hc : i < A.2.1.1 ∧ c = nI i := by
            unfold ix_ at h1
            split at h1
            · cases h1
            · split at h1
              · cases h1
              · rename_i q1 q2
                cases h1
                obtain ⟨j, hj, rfl⟩ := nI_of q1
                rw [nI_clamp hj]
                by_cases hb : A.2.1.1 < 2 ^ 31
                · exact ⟨(nI_ltI hj hb).mp (Int32.not_le.mp q2), rfl⟩
                · exact ⟨by omega, rfl⟩
          obtain ⟨hk, hs⟩ := ix_some (by decide) h2
          exact ⟨i, k, p, hc.1, hk, hc.2, hs, h3, h4, by rw [if_pos h4], fun w => by rw [if_pos h4]⟩
        · rw [if_neg h4] at h
          exact absurd h (by decide)
theorem sh_46 {dy : List mm_Sh} {k : Nat} (hk : k < 4) : (hp_SH ++ dy)[46 + k]? = some (.inl (0, 40)) := by
  rw [hp_at dy (by omega)]
  rcases (show k = 0 ∨ k = 1 ∨ k = 2 ∨ k = 3 by omega) with rfl | rfl | rfl | rfl <;> rfl
theorem rf_46 {k : Nat} (hk : k < 4) {x : Int32} (h : x = nI (46 + k + 1)) : mm_rf x = .ref (46 + k) := by
  rw [h]
  rcases (show k = 0 ∨ k = 1 ∨ k = 2 ∨ k = 3 by omega) with rfl | rfl | rfl | rfl <;> rfl
theorem cc_exam (dy : List mm_Sh) (g : Nat → Nat → Int32) (r : (Nat → Nat → Int64) × Nat × (Nat → Int32)) {A : sA} (hI : CI dy (nr_ g) A) (hSI : SI A) (c s : Int32) : mm_Ct 12 M_Sc_exam [.ref 0, .int c, .int s] (hp_SH ++ dy, g, r) 0 0 (RC dy g r A (.int (an_exam A c s))) := by
  refine mm_start pl_Sc (Nat.le_of_ble_eq_true rfl) ?_
  by_cases h0 : an_rf A c s = 0
  · obtain ⟨i, k, p, hi, hk, rfl, rfl, hp, hp6, he, -⟩ := rf_0 h0
    rw [he]
    have hI' := hI
    obtain ⟨hL, hK, hPl, hX, hB, hS, hIm, hFd, hW⟩ := hI'
    have hR := cX_R hX
    have h6 := hK.2.1
    have hpo : ∀ b l, b < 6 → A.2.2.1.1 b = some l → l < A.1.1 := fun b l hb h => hSI.1 b l hb (Or.inl h)
    obtain ⟨k1, k2, k3, k4, k5⟩ := hK.2.2 i hi
    obtain ⟨e45, h51⟩ := hS k hk
    rw [hp] at h51
    obtain ⟨a1, a2, a3, a4, a5⟩ := h51
    have e6 : g 6 (nI i).toNatClampNeg = nI (A.2.1.2.1 i) := by rw [nI_clamp (by omega), ← nr_eq g (k := 6) (j := i) rfl]; exact k1
    have e7 : g 7 (nI i).toNatClampNeg = nI (A.2.1.2.2.1 i) := by rw [nI_clamp (by omega), ← nr_eq g (k := 7) (j := i) rfl]; exact k2
    have hplt : 46 + k < (hp_SH ++ dy).length := (List.getElem?_eq_some_iff.mp (sh_46 hk)).1
    refine mm_B ok_Sc_exam 0 3 (3, [some (.ref 0), some (.int (nI i)), some (.int (nI k)), none], [.int (nI k), .int (nI i), .ref 0], (hp_SH ++ dy, g, r)) [] rfl trivial ?_
    refine mm_cV (as := [.int (nI i), .int (nI k)]) (st := []) (q := 0) cw_Sc_refusalOfExam lk_Sc_221 in_Sc_refusalOfExam sl_Sc_refusalOfExam rfl rfl (mm_at ok_Sc_exam (i := 3) rfl).1 (ct_Sc_refusalOfExam dy g r hI (nI i) (nI k)) (by decide) ⟨by omega, by omega⟩ (Nat.le_of_ble_eq_true rfl) ⟨fun k hk => by simp only [List.mem_cons, Option.some.injEq, Value.ref.injEq, reduceCtorEq, List.not_mem_nil, or_false, false_or] at hk; rcases hk with rfl | rfl <;> first | exact hplt | exact Nat.lt_of_lt_of_le (by decide) (hp_len dy), (mm_vs_b (b := 77) (lv := []) rfl (hp_len dy)).2⟩ (fun v h' hqq => ?_)
    obtain ⟨rfl, hqe⟩ := hqq; rw [hqe, h0]
    refine mm_I ok_Sc_exam 4 2 8 [some (.ref 0), some (.int (nI i)), some (.int (nI k)), some (.int 0)] [.int 0] (hp_SH ++ dy, g, r) [] rfl trivial rfl rfl (fun _ => ?_) (fun q => False.elim (q rfl))
    refine mm_B ok_Sc_exam 9 5 (22, [some (.ref 0), some (.int (nI i)), some (.int (nI k)), some (.int 0)], [.int (nI k), .ref 45, .ref 1], (hp_SH ++ dy, g, r)) [] rfl trivial ?_
    refine mm_aald (t := 4) (n := 4) (v := .ref (46 + k)) (Or.inr (Or.inr rfl)) ((hp_at dy (by decide)).trans rfl) (nI_vi hk (by decide)) (rf_46 hk (by show g 45 (nI k).toNatClampNeg = _; rw [nI_clamp (by omega), ← nr_eq g (k := 45) (j := k) rfl]; exact e45)) (mm_at ok_Sc_exam (i := 14) rfl).1 ?_
    refine mm_B ok_Sc_exam 15 13 (48, [some (.ref 0), some (.int (nI i)), some (.int (nI k)), some (.int 0)], [.int (g 7 ((nI i).toNatClampNeg)), .int (g 6 ((nI i).toNatClampNeg)), .int (nI i), .ref (46 + k), .ref 1], (hp_SH ++ dy, g, r)) [vp_in (nI i) 6, vp_in (nI i) 6] rfl (show (vp_in (nI i) 6) ∧ (vp_in (nI i) 6) from ⟨(nI_vi (by omega) (by decide)), (nI_vi (by omega) (by decide))⟩) ?_
    rw [e6, e7]
    refine mm_cV (as := [.ref (46 + k), .int (nI i), .int (nI (A.2.1.2.1 i)), .int (nI (A.2.1.2.2.1 i))]) (st := []) (q := 1) cw_Sp_firstUnlike lk_Sc_224 in_Sp_firstUnlike sl_Sp_firstUnlike rfl rfl (mm_at ok_Sc_exam (i := 28) rfl).1 (ct_Sp_firstUnlike dy g (nr_ g) r rfl hR hL (by omega) k5 (by omega) k4 (fun b hb => (hPl b hb).1) hpo hk (v := p.2.2) (fun b hb => a5 b (by omega))) (by decide) ⟨by omega, by omega⟩ (Nat.le_of_ble_eq_true rfl) ⟨fun k hk => by simp only [List.mem_cons, Option.some.injEq, Value.ref.injEq, reduceCtorEq, List.not_mem_nil, or_false, false_or] at hk; rcases hk with rfl | rfl <;> first | exact hplt | exact Nat.lt_of_lt_of_le (by decide) (hp_len dy), (mm_vs_b (b := 77) (lv := []) rfl (hp_len dy)).2⟩ (fun v h' hqq => ?_)
    obtain ⟨rfl, g1, hqe, hF1⟩ := hqq; rw [hqe]
    exact mm_ri rfl (mm_at ok_Sc_exam (i := 29) rfl).1 ⟨Nat.le_refl _, Nat.le_refl _⟩ (RC_q rfl hI (hF1.mono cz_f1))
  · rw [(rf_c h0).1]
    refine mm_B ok_Sc_exam 0 3 (3, [some (.ref 0), some (.int c), some (.int s), none], [.int s, .int c, .ref 0], (hp_SH ++ dy, g, r)) [] rfl trivial ?_
    refine mm_cV (as := [.int c, .int s]) (st := []) (q := 0) cw_Sc_refusalOfExam lk_Sc_221 in_Sc_refusalOfExam sl_Sc_refusalOfExam rfl rfl (mm_at ok_Sc_exam (i := 3) rfl).1 (ct_Sc_refusalOfExam dy g r hI c s) (by decide) ⟨by omega, by omega⟩ (Nat.le_of_ble_eq_true rfl) (mm_vs_b (b := 77) rfl (hp_len dy)) (fun v h' hqq => ?_)
    obtain ⟨rfl, hqe⟩ := hqq; rw [hqe]
    refine mm_I ok_Sc_exam 4 2 8 [some (.ref 0), some (.int c), some (.int s), some (.int (an_rf A c s))] [.int (an_rf A c s)] (hp_SH ++ dy, g, r) [] rfl trivial rfl rfl (fun q => False.elim (h0 q)) (fun _ => ?_)
    refine mm_B ok_Sc_exam 7 1 (12, [some (.ref 0), some (.int c), some (.int s), some (.int (an_rf A c s))], [.int (an_rf A c s)], (hp_SH ++ dy, g, r)) [] rfl trivial ?_
    exact mm_ri rfl (mm_at ok_Sc_exam (i := 8) rfl).1 ⟨Nat.le_refl _, Nat.le_refl _⟩ (RC_q rfl hI fr_.rf)
theorem ab_in_go (dy : List mm_Sh) (g : Nat → Nat → Int32) (r : (Nat → Nat → Int64) × Nat × (Nat → Int32)) {A : sA} (hI : CI dy (nr_ g) A) (hSI : SI A) {i k w on : Nat} {p : Nat × Nat × (Nat → Int32)} (hi : i < A.2.1.1) (hk : k < 4) (hp : A.2.2.2.2.2.1 k = some p) (hp6 : p.2.1 = 6) (hw : w < 2) (hon : on < 6) {Q : Option Value → mm_Hp → Prop} {st0 : Nat × Nat} (h100 : st0.2 < 100) (hnx : ∀ g2, fr_ f1_ g g2 → mm_W 12 M_Sc_aboard 0 0 Q 0 0 (107, [some (.ref 0), some (.int (nI i)), some (.int (nI k)), some (.int (nI w)), some (.int 0), some (.int (nI (bd_ (ab_i A i p.2.2 on) (6 - on) st0).1)), some (.int (nI (bd_ (ab_i A i p.2.2 on) (6 - on) st0).2 - 1)), some (.int (nI on)), some (.int (nI 6))], [], (hp_SH ++ dy, g2, r))) : ∀ (m d : Nat) (g1 : Nat → Nat → Int32), on + d + m = 6 → fr_ f1_ g g1 → mm_W 12 M_Sc_aboard 0 0 Q 0 0 (48, [some (.ref 0), some (.int (nI i)), some (.int (nI k)), some (.int (nI w)), some (.int 0), some (.int (nI (bd_ (ab_i A i p.2.2 on) d st0).1)), some (.int (nI (bd_ (ab_i A i p.2.2 on) d st0).2 - 1)), some (.int (nI on)), some (.int (nI (on + d)))], [], (hp_SH ++ dy, g1, r)) := by
  obtain ⟨hL, hK, hPl, hX, hB, hS, hIm, hFd, hW⟩ := hI
  have hR := cX_R hX
  have h6 := hK.2.1
  have hpo : ∀ b l, b < 6 → A.2.2.1.1 b = some l → l < A.1.1 := fun b l hb h => hSI.1 b l hb (Or.inl h)
  obtain ⟨k1, k2, k3, k4, k5⟩ := hK.2.2 i hi
  obtain ⟨e45, h51⟩ := hS k hk
  rw [hp] at h51
  obtain ⟨a1, a2, a3, a4, a5⟩ := h51
  have hplt : 46 + k < (hp_SH ++ dy).length := (List.getElem?_eq_some_iff.mp (sh_46 hk)).1
  intro m
  induction m with
  | zero =>
    intro d g1 hd hF
    rw [show d = 6 - on by omega, show on + (6 - on) = 6 by omega]
    generalize hst : bd_ (ab_i A i p.2.2 on) (6 - on) st0 = st at hnx ⊢
    refine mm_I ok_Sc_aboard 27 2 52 [some (.ref 0), some (.int (nI i)), some (.int (nI k)), some (.int (nI w)), some (.int 0), some (.int (nI st.1)), some (.int (nI st.2 - 1)), some (.int (nI on)), some (.int (nI 6))] [.int 6, .int (nI 6)] (hp_SH ++ dy, g1, r) [] rfl trivial rfl rfl (fun _ => ?_) (fun q => False.elim (q (by decide)))
    exact hnx g1 hF
  | succ m ih =>
    intro d g1 hd hF
    have ih' := ih (d + 1)
    have hs100 := ab_i_le (A := A) (c := i) (v := p.2.2) (on := on) hon h100 d (by omega)
    rw [show bd_ (ab_i A i p.2.2 on) (d + 1) st0 = ab_i A i p.2.2 on d (bd_ (ab_i A i p.2.2 on) d st0) from rfl] at ih'
    generalize hst : bd_ (ab_i A i p.2.2 on) d st0 = st at ih' hs100 ⊢
    unfold ab_i at ih'
    have hP1 := hF.nr f1_nr (rfl : nr_ g = nr_ g)
    refine mm_I ok_Sc_aboard 27 2 52 [some (.ref 0), some (.int (nI i)), some (.int (nI k)), some (.int (nI w)), some (.int 0), some (.int (nI st.1)), some (.int (nI st.2 - 1)), some (.int (nI on)), some (.int (nI (on + d)))] [.int 6, .int (nI (on + d))] (hp_SH ++ dy, g1, r) [] rfl trivial rfl rfl (fun q => False.elim (nI_ge (b := 6) (show on + d < 6 by omega) (by decide) q)) (fun _ => ?_)
    refine mm_B ok_Sc_aboard 30 5 (64, [some (.ref 0), some (.int (nI i)), some (.int (nI k)), some (.int (nI w)), some (.int 0), some (.int (nI st.1)), some (.int (nI st.2 - 1)), some (.int (nI on)), some (.int (nI (on + d)))], [.int (nI k), .ref 45, .ref 1], (hp_SH ++ dy, g1, r)) [] rfl trivial ?_
    refine mm_aald (t := 4) (n := 4) (v := .ref (46 + k)) (Or.inr (Or.inr rfl)) ((hp_at dy (by decide)).trans rfl) (nI_vi hk (by decide)) (rf_46 hk (by show g1 45 (nI k).toNatClampNeg = _; rw [nI_clamp (by omega), nr_at hP1 45 k rfl]; exact e45)) (mm_at ok_Sc_aboard (i := 35) rfl).1 ?_
    refine mm_B ok_Sc_aboard 36 3 (70, [some (.ref 0), some (.int (nI i)), some (.int (nI k)), some (.int (nI w)), some (.int 0), some (.int (nI st.1)), some (.int (nI st.2 - 1)), some (.int (nI on)), some (.int (nI (on + d)))], [.int (nI (on + d)), .int (nI on), .int (nI i), .ref (46 + k), .ref 1], (hp_SH ++ dy, g1, r)) [] rfl trivial ?_
    refine mm_cV (as := [.ref (46 + k), .int (nI i), .int (nI on), .int (nI (on + d))]) (st := []) (q := 1) cw_Sp_firstUnlike lk_Sc_224 in_Sp_firstUnlike sl_Sp_firstUnlike rfl rfl (mm_at ok_Sc_aboard (i := 39) rfl).1 (ct_Sp_firstUnlike dy g1 (nr_ g) r hP1 hR hL (by omega) k5 (by omega) (by omega) (fun b hb => (hPl b hb).1) hpo hk (v := p.2.2) (fun b hb => a5 b (by omega))) (by decide) ⟨by omega, by omega⟩ (Nat.le_of_ble_eq_true rfl) ⟨fun k hk => by simp only [List.mem_cons, Option.some.injEq, Value.ref.injEq, reduceCtorEq, List.not_mem_nil, or_false, false_or] at hk; rcases hk with rfl | rfl <;> first | exact hplt | exact Nat.lt_of_lt_of_le (by decide) (hp_len dy), (mm_vs_b (b := 77) (lv := []) rfl (hp_len dy)).2⟩ (fun v h' hqq => ?_)
    obtain ⟨rfl, g2, hqe, hF1⟩ := hqq; rw [hqe]
    have hF2 := hF.tr hF1
    refine mm_I ok_Sc_aboard 40 1 74 [some (.ref 0), some (.int (nI i)), some (.int (nI k)), some (.int (nI w)), some (.int 0), some (.int (nI st.1)), some (.int (nI st.2 - 1)), some (.int (nI on)), some (.int (nI (on + d)))] [.int (-1), .int (ex_u A i on (on + d) p.2.2)] (hp_SH ++ dy, g2, r) [] rfl trivial rfl rfl (fun hq => ?_) (fun hq => ?_)
    · rw [if_neg hq] at ih'
      refine mm_B ok_Sc_aboard 54 2 (48, [some (.ref 0), some (.int (nI i)), some (.int (nI k)), some (.int (nI w)), some (.int 0), some (.int (nI st.1)), some (.int (nI st.2 - 1)), some (.int (nI on)), some (.int ((nI (on + d)) + 1))], [], (hp_SH ++ dy, g2, r)) [] rfl trivial ?_
      rw [nI_1]
      exact ih' g2 (by omega) hF2
    · rw [if_pos hq] at ih'
      by_cases h2 : st.2 = 0
      · rw [if_pos h2] at ih'
        refine mm_I ok_Sc_aboard 42 3 83 [some (.ref 0), some (.int (nI i)), some (.int (nI k)), some (.int (nI w)), some (.int 0), some (.int ((nI st.1) + 1)), some (.int (nI st.2 - 1)), some (.int (nI on)), some (.int (nI (on + d)))] [.int (-1), .int (nI st.2 - 1)] (hp_SH ++ dy, g2, r) [] rfl trivial rfl rfl (fun q => False.elim (q (by rw [h2]; rfl))) (fun _ => ?_)
        refine mm_B ok_Sc_aboard 46 6 (99, [some (.ref 0), some (.int (nI i)), some (.int (nI k)), some (.int (nI w)), some (.int 0), some (.int ((nI st.1) + 1)), some (.int (nI st.2 - 1)), some (.int (nI on)), some (.int (nI (on + d)))], [.int ((10 * (nI on)) + (nI (on + d)))], (hp_SH ++ dy, g2, r)) [] rfl trivial ?_
        refine mm_B ok_Sc_aboard 53 3 (48, [some (.ref 0), some (.int (nI i)), some (.int (nI k)), some (.int (nI w)), some (.int 0), some (.int ((nI st.1) + 1)), some (.int ((10 * (nI on)) + (nI (on + d)))), some (.int (nI on)), some (.int ((nI (on + d)) + 1))], [], (hp_SH ++ dy, g2, r)) [] rfl trivial ?_
        have h8 := ih' g2 (by omega) hF2
        rw [show (10 : Int32) * nI on = nI (10 * on) from (Int32.ofNat_mul 10 on).symm, nI_add, nI_1 st.1, nI_1 (on + d)]
        rw [show nI (st.1 + 1, 10 * on + (on + d) + 1).2 - 1 = nI (10 * on + (on + d)) from nI_pred _] at h8
        exact h8
      · rw [if_neg h2] at ih'
        refine mm_I ok_Sc_aboard 42 3 83 [some (.ref 0), some (.int (nI i)), some (.int (nI k)), some (.int (nI w)), some (.int 0), some (.int ((nI st.1) + 1)), some (.int (nI st.2 - 1)), some (.int (nI on)), some (.int (nI (on + d)))] [.int (-1), .int (nI st.2 - 1)] (hp_SH ++ dy, g2, r) [] rfl trivial rfl rfl (fun _ => ?_) (fun q => False.elim (m1_ne (l := st.2 - 1) (by omega) (by rw [← nI_sub (by omega)]; exact q)))
        refine mm_B ok_Sc_aboard 52 4 (48, [some (.ref 0), some (.int (nI i)), some (.int (nI k)), some (.int (nI w)), some (.int 0), some (.int ((nI st.1) + 1)), some (.int (nI st.2 - 1)), some (.int (nI on)), some (.int ((nI (on + d)) + 1))], [], (hp_SH ++ dy, g2, r)) [] rfl trivial ?_
        rw [nI_1 st.1, nI_1 (on + d)]
        exact ih' g2 (by omega) hF2
theorem ab_go (dy : List mm_Sh) (g : Nat → Nat → Int32) (r : (Nat → Nat → Int64) × Nat × (Nat → Int32)) {A : sA} (hI : CI dy (nr_ g) A) (hSI : SI A) {i k w : Nat} {p : Nat × Nat × (Nat → Int32)} (hi : i < A.2.1.1) (hk : k < 4) (hp : A.2.2.2.2.2.1 k = some p) (hp6 : p.2.1 = 6) (hw : w < 2) : ∀ (m on : Nat) (g1 : Nat → Nat → Int32), on + m = 6 → fr_ f1_ g g1 → mm_W 12 M_Sc_aboard 0 0 (RC dy g r A (.int (if w = 0 then nI (ab_ A i p.2.2 6).1 else nI (ab_ A i p.2.2 6).2 - 1))) 0 0 (37, [some (.ref 0), some (.int (nI i)), some (.int (nI k)), some (.int (nI w)), some (.int 0), some (.int (nI (ab_ A i p.2.2 on).1)), some (.int (nI (ab_ A i p.2.2 on).2 - 1)), some (.int (nI on)), none], [], (hp_SH ++ dy, g1, r)) := by
  intro m
  induction m with
  | zero =>
    intro on g1 hon hF
    rw [show on = 6 by omega]
    generalize hst : ab_ A i p.2.2 6 = st
    refine mm_I ok_Sc_aboard 22 2 41 [some (.ref 0), some (.int (nI i)), some (.int (nI k)), some (.int (nI w)), some (.int 0), some (.int (nI st.1)), some (.int (nI st.2 - 1)), some (.int (nI 6)), none] [.int 6, .int (nI 6)] (hp_SH ++ dy, g1, r) [] rfl trivial rfl rfl (fun _ => ?_) (fun q => False.elim (q (by decide)))
    by_cases hw0 : w = 0
    · subst hw0
      rw [if_pos rfl]
      refine mm_I ok_Sc_aboard 58 1 114 [some (.ref 0), some (.int (nI i)), some (.int (nI k)), some (.int (nI 0)), some (.int 0), some (.int (nI st.1)), some (.int (nI st.2 - 1)), some (.int (nI 6)), none] [.int (nI 0)] (hp_SH ++ dy, g1, r) [] rfl trivial rfl rfl (fun q => False.elim (q rfl)) (fun _ => ?_)
      refine mm_B ok_Sc_aboard 60 2 (124, [some (.ref 0), some (.int (nI i)), some (.int (nI k)), some (.int (nI 0)), some (.int 0), some (.int (nI st.1)), some (.int (nI st.2 - 1)), some (.int (nI 6)), none], [.int (nI st.1)], (hp_SH ++ dy, g1, r)) [] rfl trivial ?_
      exact mm_ri rfl (mm_at ok_Sc_aboard (i := 63) rfl).1 ⟨Nat.le_refl _, Nat.le_refl _⟩ (RC_q rfl hI (hF.mono cz_f1))
    · rw [if_neg hw0]
      refine mm_I ok_Sc_aboard 58 1 114 [some (.ref 0), some (.int (nI i)), some (.int (nI k)), some (.int (nI w)), some (.int 0), some (.int (nI st.1)), some (.int (nI st.2 - 1)), some (.int (nI 6)), none] [.int (nI w)] (hp_SH ++ dy, g1, r) [] rfl trivial rfl rfl (fun _ => ?_) (fun q => False.elim (nI_ne0 (by omega) (by omega) q))
      refine mm_B ok_Sc_aboard 62 1 (124, [some (.ref 0), some (.int (nI i)), some (.int (nI k)), some (.int (nI w)), some (.int 0), some (.int (nI st.1)), some (.int (nI st.2 - 1)), some (.int (nI 6)), none], [.int (nI st.2 - 1)], (hp_SH ++ dy, g1, r)) [] rfl trivial ?_
      exact mm_ri rfl (mm_at ok_Sc_aboard (i := 63) rfl).1 ⟨Nat.le_refl _, Nat.le_refl _⟩ (RC_q rfl hI (hF.mono cz_f1))
  | succ m ih =>
    intro on g1 hon hF
    have hab := ab_le (A := A) (c := i) (v := p.2.2) on (by omega)
    have ih' := ih (on + 1)
    rw [show ab_ A i p.2.2 (on + 1) = bd_ (ab_i A i p.2.2 on) (6 - on) (ab_ A i p.2.2 on) from rfl] at ih'
    generalize hst : ab_ A i p.2.2 on = st at ih' hab ⊢
    refine mm_I ok_Sc_aboard 22 2 41 [some (.ref 0), some (.int (nI i)), some (.int (nI k)), some (.int (nI w)), some (.int 0), some (.int (nI st.1)), some (.int (nI st.2 - 1)), some (.int (nI on)), none] [.int 6, .int (nI on)] (hp_SH ++ dy, g1, r) [] rfl trivial rfl rfl (fun q => False.elim (nI_ge (b := 6) (show on < 6 by omega) (by decide) q)) (fun _ => ?_)
    refine mm_B ok_Sc_aboard 25 2 (48, [some (.ref 0), some (.int (nI i)), some (.int (nI k)), some (.int (nI w)), some (.int 0), some (.int (nI st.1)), some (.int (nI st.2 - 1)), some (.int (nI on)), some (.int (nI on))], [], (hp_SH ++ dy, g1, r)) [] rfl trivial ?_
    refine ab_in_go dy g r hI hSI hi hk hp hp6 hw (on := on) (by omega) (st0 := st) hab (fun g2 hF2 => ?_) (6 - on) 0 g1 (by omega) hF
    generalize hst2 : bd_ (ab_i A i p.2.2 on) (6 - on) st = st2 at ih' ⊢
    refine mm_B ok_Sc_aboard 56 2 (37, [some (.ref 0), some (.int (nI i)), some (.int (nI k)), some (.int (nI w)), some (.int 0), some (.int (nI st2.1)), some (.int (nI st2.2 - 1)), some (.int ((nI on) + 1)), some (.int (nI 6))], [], (hp_SH ++ dy, g2, r)) [] rfl trivial ?_
    refine mm_fg [8] ?_
    rw [nI_1]
    exact ih' g2 (by omega) hF2
theorem cc_aboard (dy : List mm_Sh) (g : Nat → Nat → Int32) (r : (Nat → Nat → Int64) × Nat × (Nat → Int32)) {A : sA} (hI : CI dy (nr_ g) A) (hSI : SI A) (c s w : Int32) : mm_Ct 12 M_Sc_aboard [.ref 0, .int c, .int s, .int w] (hp_SH ++ dy, g, r) 0 0 (RC dy g r A (.int (an_aboard A c s w))) := by
  refine mm_start pl_Sc (Nat.le_of_ble_eq_true rfl) ?_
  by_cases h0 : an_rf A c s = 0
  · obtain ⟨i, k, p, hi, hk, rfl, rfl, hp, hp6, -, he⟩ := rf_0 h0
    rw [he]
    cases hx : ix_ 2 w with
    | none =>
      refine mm_B ok_Sc_aboard 0 3 (3, [some (.ref 0), some (.int (nI i)), some (.int (nI k)), some (.int w), none, none, none, none, none], [.int (nI k), .int (nI i), .ref 0], (hp_SH ++ dy, g, r)) [] rfl trivial ?_
      refine mm_cV (as := [.int (nI i), .int (nI k)]) (st := []) (q := 0) cw_Sc_refusalOfExam lk_Sc_221 in_Sc_refusalOfExam sl_Sc_refusalOfExam rfl rfl (mm_at ok_Sc_aboard (i := 3) rfl).1 (ct_Sc_refusalOfExam dy g r hI (nI i) (nI k)) (by decide) ⟨by omega, by omega⟩ (Nat.le_of_ble_eq_true rfl) (mm_vs_b (b := 77) rfl (hp_len dy)) (fun v h' hqq => ?_)
      obtain ⟨rfl, hqe⟩ := hqq; rw [hqe, h0]
      refine mm_I ok_Sc_aboard 4 2 10 [some (.ref 0), some (.int (nI i)), some (.int (nI k)), some (.int w), some (.int 0), none, none, none, none] [.int 0] (hp_SH ++ dy, g, r) [] rfl trivial rfl rfl (fun _ => ?_) (fun q => False.elim (q rfl))
      rcases g1_n (by decide) hx with hr | hr
      · refine mm_I ok_Sc_aboard 9 1 17 [some (.ref 0), some (.int (nI i)), some (.int (nI k)), some (.int w), some (.int 0), none, none, none, none] [.int w] (hp_SH ++ dy, g, r) [] rfl trivial rfl rfl (fun _ => ?_) (fun q => False.elim (q hr))
        refine mm_B ok_Sc_aboard 14 1 (27, [some (.ref 0), some (.int (nI i)), some (.int (nI k)), some (.int w), some (.int 0), none, none, none, none], [.int (-2)], (hp_SH ++ dy, g, r)) [] rfl trivial ?_
        exact mm_ri rfl (mm_at ok_Sc_aboard (i := 15) rfl).1 ⟨Nat.le_refl _, Nat.le_refl _⟩ (RC_q rfl hI fr_.rf)
      · refine mm_I ok_Sc_aboard 9 1 17 [some (.ref 0), some (.int (nI i)), some (.int (nI k)), some (.int w), some (.int 0), none, none, none, none] [.int w] (hp_SH ++ dy, g, r) [] rfl trivial rfl rfl (fun q => False.elim (absurd (Int32.lt_trans hr q) (by decide))) (fun _ => ?_)
        refine mm_I ok_Sc_aboard 11 2 22 [some (.ref 0), some (.int (nI i)), some (.int (nI k)), some (.int w), some (.int 0), none, none, none, none] [.int 1, .int w] (hp_SH ++ dy, g, r) [] rfl trivial rfl rfl (fun q => False.elim (absurd hr (Int32.not_lt.mpr q))) (fun _ => ?_)
        refine mm_B ok_Sc_aboard 14 1 (27, [some (.ref 0), some (.int (nI i)), some (.int (nI k)), some (.int w), some (.int 0), none, none, none, none], [.int (-2)], (hp_SH ++ dy, g, r)) [] rfl trivial ?_
        exact mm_ri rfl (mm_at ok_Sc_aboard (i := 15) rfl).1 ⟨Nat.le_refl _, Nat.le_refl _⟩ (RC_q rfl hI fr_.rf)
    | some j =>
      obtain ⟨hj, rfl⟩ := ix_some (by decide) hx
      refine mm_B ok_Sc_aboard 0 3 (3, [some (.ref 0), some (.int (nI i)), some (.int (nI k)), some (.int (nI j)), none, none, none, none, none], [.int (nI k), .int (nI i), .ref 0], (hp_SH ++ dy, g, r)) [] rfl trivial ?_
      refine mm_cV (as := [.int (nI i), .int (nI k)]) (st := []) (q := 0) cw_Sc_refusalOfExam lk_Sc_221 in_Sc_refusalOfExam sl_Sc_refusalOfExam rfl rfl (mm_at ok_Sc_aboard (i := 3) rfl).1 (ct_Sc_refusalOfExam dy g r hI (nI i) (nI k)) (by decide) ⟨by omega, by omega⟩ (Nat.le_of_ble_eq_true rfl) (mm_vs_b (b := 77) rfl (hp_len dy)) (fun v h' hqq => ?_)
      obtain ⟨rfl, hqe⟩ := hqq; rw [hqe, h0]
      refine mm_I ok_Sc_aboard 4 2 10 [some (.ref 0), some (.int (nI i)), some (.int (nI k)), some (.int (nI j)), some (.int 0), none, none, none, none] [.int 0] (hp_SH ++ dy, g, r) [] rfl trivial rfl rfl (fun _ => ?_) (fun q => False.elim (q rfl))
      refine mm_I ok_Sc_aboard 9 1 17 [some (.ref 0), some (.int (nI i)), some (.int (nI k)), some (.int (nI j)), some (.int 0), none, none, none, none] [.int (nI j)] (hp_SH ++ dy, g, r) [] rfl trivial rfl rfl (fun q => False.elim (nI_pos (n := j) (by omega) q)) (fun _ => ?_)
      refine mm_I ok_Sc_aboard 11 2 22 [some (.ref 0), some (.int (nI i)), some (.int (nI k)), some (.int (nI j)), some (.int 0), none, none, none, none] [.int 1, .int (nI j)] (hp_SH ++ dy, g, r) [] rfl trivial rfl rfl (fun _ => ?_) (fun q => False.elim (q (nI_le (b := 1) (by omega) (by decide))))
      refine mm_B ok_Sc_aboard 16 6 (37, [some (.ref 0), some (.int (nI i)), some (.int (nI k)), some (.int (nI j)), some (.int 0), some (.int 0), some (.int (-1)), some (.int 0), none], [], (hp_SH ++ dy, g, r)) [] rfl trivial ?_
      exact ab_go dy g r hI hSI hi hk hp hp6 hj 6 0 g rfl fr_.rf
  · rw [(rf_c h0).2 w]
    refine mm_B ok_Sc_aboard 0 3 (3, [some (.ref 0), some (.int c), some (.int s), some (.int w), none, none, none, none, none], [.int s, .int c, .ref 0], (hp_SH ++ dy, g, r)) [] rfl trivial ?_
    refine mm_cV (as := [.int c, .int s]) (st := []) (q := 0) cw_Sc_refusalOfExam lk_Sc_221 in_Sc_refusalOfExam sl_Sc_refusalOfExam rfl rfl (mm_at ok_Sc_aboard (i := 3) rfl).1 (ct_Sc_refusalOfExam dy g r hI c s) (by decide) ⟨by omega, by omega⟩ (Nat.le_of_ble_eq_true rfl) (mm_vs_b (b := 77) rfl (hp_len dy)) (fun v h' hqq => ?_)
    obtain ⟨rfl, hqe⟩ := hqq; rw [hqe]
    refine mm_I ok_Sc_aboard 4 2 10 [some (.ref 0), some (.int c), some (.int s), some (.int w), some (.int (an_rf A c s)), none, none, none, none] [.int (an_rf A c s)] (hp_SH ++ dy, g, r) [] rfl trivial rfl rfl (fun q => False.elim (h0 q)) (fun _ => ?_)
    refine mm_B ok_Sc_aboard 7 1 (15, [some (.ref 0), some (.int c), some (.int s), some (.int w), some (.int (an_rf A c s)), none, none, none, none], [.int (an_rf A c s)], (hp_SH ++ dy, g, r)) [] rfl trivial ?_
    exact mm_ri rfl (mm_at ok_Sc_aboard (i := 8) rfl).1 ⟨Nat.le_refl _, Nat.le_refl _⟩ (RC_q rfl hI fr_.rf)

