/-! ===== numbers of the tape; Reader.read ===== -/
theorem nr_eq (g : Nat → Nat → Int32) {k j : Nat} (hs : nr_s k j = false) : nr_ g k j = g k j := by simp [nr_, hs]
theorem dg_nI {x : Int32} (h : f_Re_isDigit x = 1) : ∃ d : Nat, d ≤ 9 ∧ x = nI (48 + d) := by
  unfold f_Re_isDigit at h
  split at h
  · cases h
  · rename_i h1
    split at h
    · cases h
    · rename_i h2
      have h3 : 48 ≤ x.toInt := by
        have := Int32.le_iff_toInt_le.mp (Int32.not_lt.mp h1)
        exact this
      have h4 : x.toInt ≤ 57 := by
        have := Int32.le_iff_toInt_le.mp (Int32.not_lt.mp h2)
        exact this
      refine ⟨(x.toInt - 48).toNat, by omega, ?_⟩
      apply Int32.toInt_inj.mp
      rw [nI_toInt (by omega)]
      omega
theorem nv_nI {B : Nat → Int32} {s : Nat} : ∀ k, k ≤ 4 → (∀ j, j < k → dg_ B (s + j) = true) → ∃ m : Nat, nv_ B s k = nI m ∧ m < 10 ^ k := by
  intro k
  induction k with
  | zero => intro _ _; exact ⟨0, rfl, by decide⟩
  | succ k ih =>
    intro hk hd
    obtain ⟨m, h1, h2⟩ := ih (by omega) (fun j hj => hd j (by omega))
    obtain ⟨d, h3, h4⟩ := dg_nI (of_decide_eq_true (hd k (by omega)))
    refine ⟨10 * m + d, ?_, by rw [Nat.pow_succ]; omega⟩
    simp only [nv_]
    rw [h1, h4]
    have e1 : nI m * 10 = nI (m * 10) := (Int32.ofNat_mul m 10).symm
    rw [e1, nI_add]
    have e2 : (48 : Int32) = nI 48 := rfl
    rw [e2, nI_sub (by omega)]
    congr 1
    omega
theorem nv_pos {B : Nat → Int32} {n s : Nat} (h : sk_ (dg_ B) n s - s ≤ 4) : ∃ m : Nat, nv_ B s (sk_ (dg_ B) n s - s) = nI m ∧ m < 10000 := by
  obtain ⟨m, h1, h2⟩ := nv_nI (B := B) (s := s) (sk_ (dg_ B) n s - s) h (fun j hj => sk_all (n := n) (p := s) (by omega) (by omega))
  have h3 : 10 ^ (sk_ (dg_ B) n s - s) ≤ 10 ^ 4 := Nat.pow_le_pow_right (by decide) h
  exact ⟨m, h1, by omega⟩
theorem nI_nneg {m : Nat} (h : m < 2 ^ 31) : ¬ nI m < 0 := nI_pos h
theorem sg_key {x : Int32} : sg_ x = -16 ∨ sg_ x = -17 ∨ sg_ x = -14 ∨ sg_ x = -12 ∨ sg_ x = -13 ∨ sg_ x = -18 ∨ sg_ x = -10 ∨ sg_ x = -11 ∨ sg_ x = -23 := by
  unfold sg_
  repeat' split
  all_goals simp
theorem tk_hears {B : Nat → Int32} {n q : Nat} (h : tk_ B n q = -19) : 5 ≤ nx_ B n q := by
  unfold tk_ at h
  unfold nx_
  generalize ts_ B n q = s at h ⊢
  unfold tk0 at h
  unfold nx0
  split at h
  · exact absurd h (by decide)
  · rename_i h1
    rw [if_neg h1]
    split at h
    · rename_i h2
      exfalso
      split at h
      · exact absurd h (by decide)
      · rename_i h3
        obtain ⟨m, h4, h5⟩ := nv_pos (B := B) (n := n) (s := s) (by omega)
        rw [h4] at h
        exact nI_pos (n := m) (by omega) (by rw [h]; decide)
    · rename_i h2
      rw [if_neg h2]
      split at h
      · rename_i h3
        rw [if_pos h3]
        unfold wc_ at h
        by_cases h9 : wo_ B s (sk_ (lt_ B) n s) 9 = true
        · unfold wo_ wm_ at h9
          have := of_decide_eq_true ((Bool.and_eq_true _ _).mp h9).1
          have e5 : (mm_sb.getD 9 []).length = 5 := rfl
          omega
        · exfalso
          rw [if_neg h9] at h
          revert h
          repeat' split
          all_goals decide
      · exfalso
        rcases sg_key (x := B s) with e | e | e | e | e | e | e | e | e <;> rw [e] at h <;> revert h <;> decide
theorem nx_le (B : Nat → Int32) (n q : Nat) : q ≤ nx_ B n q := by
  have h1 := ts_le B n q
  unfold nx_
  by_cases h : n ≤ ts_ B n q
  · unfold nx0
    rw [if_pos h]
    exact h1
  · have := nx0_lt B (n := n) (s := ts_ B n q) (by omega)
    omega
theorem sc_inv {B : Nat → Int32} {n F q q1 : Nat} {key : Int32} {c : List Int32} (hq : q ≤ n) (h : sc_ B n F key q = some (.inl (q1, c))) : tk_ B n q = key ∧ nx_ B n q ≤ q1 ∧ q1 ≤ n := by
  unfold sc_ at h
  split at h
  · rename_i h1
    rcases pb_inv h with ⟨e, h2, h3⟩ | ⟨q2, c2, h2, h3⟩
    · cases h3
    · have h4 := ps_len F _ _ _ _ _ (nx_ub B hq) h2
      split at h3
      · cases h3
        have := nx_le B n q2
        exact ⟨h1, by omega, nx_ub B h4.1.2⟩
      · cases h3
  · cases h
abbrev tr_ : Type := (List Int32 × List Int32 × List Int32) ⊕ Nat
def tb_ (x : px_) (k : Nat → List Int32 → Option tr_) : Option tr_ := match x with
  | none => none
  | some (.inr e) => some (.inr e)
  | some (.inl y) => k y.1 y.2
/-- a whole text: its three rows of signs, or its fault's place -/
noncomputable def tx_ (B : Nat → Int32) (n F : Nat) : Option tr_ := tb_ (sc_ B n F (-19) 0) (fun q1 c0 => tb_ (sc_ B n F (-20) q1) (fun q2 c1 => tb_ (sc_ B n F (-21) q2) (fun q3 c2 => if tk_ B n q3 = -22 then some (.inl (c0, c1, c2)) else some (.inr (ts_ B n q3)))))
def f5_ (k j : Nat) : Bool := f4_ k j || (k == 31 && j == 1)
theorem f5_f4 : ∀ k j, f5_ k j = false → f4_ k j = false := fun k j h => (Bool.or_eq_false_iff.mp h).1
theorem f5_f3 : ∀ k j, f5_ k j = false → f3_ k j = false := fun k j h => f4_f3 k j (f5_f4 k j h)
theorem f5_up {k j : Nat} {g : Nat → Nat → Int32} {v : Int32} (h : f5_ k j = false) : mm_up g 31 1 v k j = g k j := by
  unfold f5_ at h
  have h2 := (Bool.or_eq_false_iff.mp h).2
  simp only [mm_up]
  rw [h2]
  rfl
theorem f4_big {k j : Nat} (h : 77 ≤ k) : f4_ k j = false := by
  unfold f4_
  rw [beq_false_of_ne (show k ≠ 31 by omega), beq_false_of_ne (show k ≠ 33 by omega)]
  rfl
theorem wf_up {s : List mm_Sh} {g : Nat → Nat → Int32} {r : (Nat → Nat → Int64) × Nat × (Nat → Int32)} {k y : Nat} {v : Int32} (hw : mm_wf (s, g, r)) (h : ∀ a, s[k]? = some (.inl a) → a.1 < 2) : mm_wf (s, mm_up g k y v, r) := by
  refine wf_g hw (fun k' a hk ha => ?_)
  by_cases e : k' = k
  · subst e; exact absurd (h a hk) ha
  · exact mm_up_ne e
def rd_Q (dy : List mm_Sh) (r : (Nat → Nat → Int64) × Nat × (Nat → Int32)) (g : Nat → Nat → Int32) : tr_ → Option Value → mm_Hp → Prop
  | .inl c => fun v h' => v = some (.ref ((hp_SH ++ dy).length + 3)) ∧ ∃ g' r', h' = (hp_SH ++ (dy ++ [.inl (0, c.1.length), .inl (0, c.2.1.length), .inl (0, c.2.2.length), .inr (10, [(hp_SH ++ dy).length + 3, (hp_SH ++ dy).length + 1 + 3, (hp_SH ++ dy).length + 2 + 3])]), g', r') ∧ r'.2 = r.2 ∧ (∀ k j, k < (hp_SH ++ dy).length → f5_ k j = false → g' k j = g k j) ∧ g' 31 1 = 0 ∧ ((∀ i, i < c.1.length → g' (hp_SH ++ dy).length i = c.1.getD i 0) ∧ (∀ i, i < c.2.1.length → g' ((hp_SH ++ dy).length + 1) i = c.2.1.getD i 0) ∧ ∀ i, i < c.2.2.length → g' ((hp_SH ++ dy).length + 2) i = c.2.2.getD i 0) ∧ mm_wf h' ∧ c.1.length ≤ 155 ∧ c.2.1.length ≤ 155 ∧ c.2.2.length ≤ 155
  | .inr e => fun v h' => v = some .null ∧ ∃ dy2 g' r', h' = (hp_SH ++ (dy ++ dy2), g', r') ∧ dy2.length ≤ 3 ∧ r'.2 = r.2 ∧ (∀ k j, k < (hp_SH ++ dy).length → f5_ k j = false → g' k j = g k j) ∧ g' 31 1 = 0 ∧ g' 31 2 = nI e ∧ mm_wf h'
theorem mm_vs_t {n q : Nat} {lv : mm_L} {st : List Value} (hq : q < n) (h : mm_vs n lv st) : mm_vs n lv (.ref q :: st) :=
  ⟨h.1, fun k hk => (List.mem_cons.mp hk).elim (fun e => by cases e; exact hq) (h.2 k)⟩
theorem rd_tn {dy : List mm_Sh} {g : Nat → Nat → Int32} {r : (Nat → Nat → Int64) × Nat × (Nat → Int32)} {v1 : Value} {nc ns : Nat} {Q : Option Value → mm_Hp → Prop} (hb : nc ≤ 4 ∧ ns ≤ 483) (hQ : Q (some .null) (hp_SH ++ dy, mm_up g 31 1 0, r)) : mm_W 54 M_Re_read 4 483 Q nc ns (45, [some (.ref 31), some v1, some .null, none], [.null], (hp_SH ++ dy, g, r)) := by
  refine mm_I ok_Re_read 24 5 52 [some (.ref 31), (some v1), some (.null), some (.null)] [.null] (hp_SH ++ dy, mm_up g 31 1 0, r) [] rfl trivial rfl rfl (fun _ => ?_) (fun q => q.elim)
  refine mm_B ok_Re_read 34 2 (78, [some (.ref 31), (some v1), some (.null), some (.null)], [.null], (hp_SH ++ dy, mm_up g 31 1 0, r)) [] rfl trivial ?_
  exact mm_ra rfl (Or.inl ⟨_, rfl⟩) rfl (mm_at ok_Re_read (i := 42) rfl).1 hb (hQ)
theorem rd_tr {dy : List mm_Sh} {g : Nat → Nat → Int32} {r : (Nat → Nat → Int64) × Nat × (Nat → Int32)} {v1 : Value} {k2 : Nat} {nc ns : Nat} {Q : Option Value → mm_Hp → Prop} (hb : nc ≤ 4 ∧ ns ≤ 483) (hQ : Q (some .null) (hp_SH ++ dy, mm_up g 31 1 0, r)) : mm_W 54 M_Re_read 4 483 Q nc ns (45, [some (.ref 31), some v1, some (.ref k2), none], [.null], (hp_SH ++ dy, g, r)) := by
  refine mm_I ok_Re_read 24 5 52 [some (.ref 31), (some v1), some (.ref k2), some (.null)] [.null] (hp_SH ++ dy, mm_up g 31 1 0, r) [] rfl trivial rfl rfl (fun _ => ?_) (fun q => q.elim)
  refine mm_B ok_Re_read 34 2 (78, [some (.ref 31), (some v1), some (.ref k2), some (.null)], [.null], (hp_SH ++ dy, mm_up g 31 1 0, r)) [] rfl trivial ?_
  exact mm_ra rfl (Or.inl ⟨_, rfl⟩) rfl (mm_at ok_Re_read (i := 42) rfl).1 hb (hQ)
theorem ct_Re_read (dy : List mm_Sh) (g P : Nat → Nat → Int32) (r : (Nat → Nat → Int64) × Nat × (Nat → Int32)) (hP : nr_ g = P) {B : Nat → Int32} {n : Nat} (hN : P 31 1 = nI n) (hn : n ≤ 160) (hB : ∀ j, j < n → P 32 j = B j) {F : Nat} (hw : mm_wf (hp_SH ++ dy, g, r)) {res : tr_} (hs : tx_ B n F = some res) : mm_Ct 54 M_Re_read [.ref 31] (hp_SH ++ dy, g, r) 4 483 (rd_Q dy r g res) := by
  have hL : 77 ≤ (hp_SH ++ dy).length := hp_len dy
  have h31 : ∀ dy' : List mm_Sh, (hp_SH ++ dy')[31]? = some (.inr (6, [35, 0, 0, 0, 0, 36, 0])) := fun dy' => (hp_at dy' (by decide)).trans rfl
  have hF0 : fr_ f4_ g (mm_up g 31 3 0) := fr_.rf.up _ rfl
  have hP0 := hF0.nr f4_nr hP
  unfold tx_ at hs
  refine mm_start pl_Re (Nat.le_of_ble_eq_true rfl) ?_
  refine mm_B ok_Re_read 0 4 (6, [some (.ref 31), none, none, none], [.ref 31], (hp_SH ++ dy, mm_up g 31 3 0, r)) [] rfl trivial ?_
  refine mm_cV (as := []) (st := []) (q := 31) cw_Re_advance lk_Re_22 in_Re_advance sl_Re_advance rfl rfl (mm_at ok_Re_read (i := 4) rfl).1 (ct_Re_advance dy (mm_up g 31 3 0) P r hP0 hN hn hB (q := 0) (Nat.zero_le _) rfl) (by decide) ⟨by omega, by omega⟩ (Nat.le_of_ble_eq_true rfl) (mm_vs_b (b := 77) rfl (hp_len dy)) (fun v h' hqq => ?_)
  obtain ⟨rfl, g1, hqe, hF1, a2, a3, a4⟩ := hqq; rw [hqe]
  have hF01 := hF0.tr (hF1.mono f4_f3)
  have hP1 := hF01.nr f4_nr hP
  have hw1 : mm_wf (hp_SH ++ dy, g1, r) := wf_fr hw hF01
  refine mm_B ok_Re_read 5 2 (12, [some (.ref 31), none, none, none], [.int (-19), .ref 31], (hp_SH ++ dy, g1, r)) [] rfl trivial ?_
  cases h1 : sc_ B n F (-19) 0 with
  | none => rw [h1] at hs; cases hs
  | some x1 =>
  cases x1 with
  | inr e =>
    rw [h1] at hs
    cases hs
    refine mm_cV (as := [.int (-19)]) (st := []) (q := 31) cw_Re_section lk_Re_27 in_Re_section sl_Re_section rfl rfl (mm_at ok_Re_read (i := 7) rfl).1 (ct_Re_section dy g1 P r hP1 hN hn hB (Nat.zero_le _) a2 a3 a4 tk_hears hw1 h1) (by decide) ⟨by omega, by omega⟩ (Nat.le_of_ble_eq_true rfl) (mm_vs_b (b := 77) rfl (hp_len dy)) (fun v h' hqq => ?_)
    obtain ⟨rfl, g2, hqe, hF2, h22⟩ := hqq; rw [hqe]
    refine mm_I ok_Re_read 8 2 17 [some (.ref 31), some (.null), none, none] [.null] (hp_SH ++ dy, g2, r) [] rfl trivial rfl rfl (fun q => q.elim) (fun _ => ?_)
    refine mm_B ok_Re_read 11 2 (30, [some (.ref 31), some (.null), none, none], [.null], (hp_SH ++ dy, g2, r)) [] rfl trivial ?_
    refine mm_I ok_Re_read 16 2 32 [some (.ref 31), some (.null), some (.null), none] [.null] (hp_SH ++ dy, g2, r) [] rfl trivial rfl rfl (fun q => q.elim) (fun _ => ?_)
    refine mm_B ok_Re_read 19 2 (45, [some (.ref 31), some (.null), some (.null), none], [.null], (hp_SH ++ dy, g2, r)) [] rfl trivial ?_
    have hF02 := hF01.tr hF2
    have hw2 : mm_wf (hp_SH ++ dy, g2, r) := wf_fr hw hF02
    exact rd_tn ⟨by omega, by omega⟩ ⟨rfl, [], _, r, by rw [List.append_nil], by decide, rfl, fun k j hk hf => (f5_up hf).trans (hF02 k j (f5_f4 k j hf)), rfl, h22, wf_up hw2 (fun a ha => by rw [h31] at ha; cases ha)⟩
  | inl y0 =>
    obtain ⟨q1, c0⟩ := y0
    rw [h1] at hs
    replace hs : tb_ (sc_ B n F (-20) q1) (fun q2 c1 => tb_ (sc_ B n F (-21) q2) (fun q3 c2 => if tk_ B n q3 = -22 then some (.inl (c0, c1, c2)) else some (.inr (ts_ B n q3)))) = some res := hs
    refine mm_cV (as := [.int (-19)]) (st := []) (q := 31) cw_Re_section lk_Re_27 in_Re_section sl_Re_section rfl rfl (mm_at ok_Re_read (i := 7) rfl).1 (ct_Re_section dy g1 P r hP1 hN hn hB (Nat.zero_le _) a2 a3 a4 tk_hears hw1 h1) (by decide) ⟨by omega, by omega⟩ (Nat.le_of_ble_eq_true rfl) (mm_vs_b (b := 77) rfl (hp_len dy)) (fun v h' hqq => ?_)
    obtain ⟨rfl, g2, r2, hqe, hr2, hF2, ⟨b2, b3, b4⟩, hc0, hw2, hl0⟩ := hqq
    rw [hqe] at hw2
    rw [hqe]
    obtain ⟨dy1, hdy1⟩ : ∃ x, x = dy ++ [(.inl (0, ((q1, c0) : Nat × List Int32).2.length) : mm_Sh)] := ⟨_, rfl⟩
    rw [← hdy1] at hw2 ⊢
    have hL1 : (hp_SH ++ dy1).length = (hp_SH ++ dy).length + 1 := by rw [hdy1, ← List.append_assoc, List.length_append]; rfl
    have hF2' : ∀ k j, k < (hp_SH ++ dy).length → f4_ k j = false → g2 k j = g k j := fun k j hk hf => (hF2 k j hk hf).trans (hF01 k j hf)
    have hN2 : nr_ g2 31 1 = nI n := by rw [nr_eq g2 rfl, hF2' 31 1 (by omega) rfl, ← hN, ← hP, nr_eq g rfl]
    have hB2 : ∀ j, j < n → nr_ g2 32 j = B j := fun j hj => by rw [nr_eq g2 rfl, hF2' 32 j (by omega) rfl, ← hB j hj, ← hP, nr_eq g rfl]
    have hi1 := sc_inv (Nat.zero_le _) h1
    have h5 := tk_hears hi1.1
    refine mm_I ok_Re_read 8 2 17 [some (.ref 31), some (.ref (hp_SH ++ dy).length), none, none] [.ref (hp_SH ++ dy).length] (hp_SH ++ dy1, g2, r2) [] rfl trivial rfl rfl (fun _ => ?_) (fun q => q.elim)
    refine mm_B ok_Re_read 13 2 (27, [some (.ref 31), some (.ref (hp_SH ++ dy).length), none, none], [.int (-20), .ref 31], (hp_SH ++ dy1, g2, r2)) [] rfl trivial ?_
    cases h2 : sc_ B n F (-20) q1 with
    | none => rw [h2] at hs; cases hs
    | some x2 =>
    cases x2 with
    | inr e =>
      rw [h2] at hs
      cases hs
      refine mm_cV (as := [.int (-20)]) (st := []) (q := 31) cw_Re_section lk_Re_27 in_Re_section sl_Re_section rfl rfl (mm_at ok_Re_read (i := 15) rfl).1 (ct_Re_section dy1 g2 (nr_ g2) r2 rfl hN2 hn hB2 hi1.2.2 b2 b3 b4 (fun _ => by have := nx_le B n q1; omega) hw2 h2) (by decide) ⟨by omega, by omega⟩ (Nat.le_of_ble_eq_true rfl) (mm_vs_c (show 31 < (hp_SH ++ dy1).length by omega) (mm_vs_c (show (hp_SH ++ dy).length < (hp_SH ++ dy1).length by omega) (mm_vs_b (b := 0) rfl (Nat.zero_le _)))) (fun v h' hqq => ?_)
      obtain ⟨rfl, g3, hqe, hF3, h32⟩ := hqq; rw [hqe]
      refine mm_I ok_Re_read 16 2 32 [some (.ref 31), some (.ref (hp_SH ++ dy).length), some (.null), none] [.null] (hp_SH ++ dy1, g3, r2) [] rfl trivial rfl rfl (fun q => q.elim) (fun _ => ?_)
      refine mm_B ok_Re_read 19 2 (45, [some (.ref 31), some (.ref (hp_SH ++ dy).length), some (.null), none], [.null], (hp_SH ++ dy1, g3, r2)) [] rfl trivial ?_
      have hw3 : mm_wf (hp_SH ++ dy1, g3, r2) := wf_fr hw2 hF3
      exact rd_tn ⟨by omega, by omega⟩ ⟨rfl, _, _, r2, by rw [hdy1], Nat.le_of_ble_eq_true rfl, hr2, fun k j hk hf => ((f5_up hf).trans (hF3 k j (f5_f4 k j hf))).trans (hF2' k j hk (f5_f4 k j hf)), rfl, h32, wf_up hw3 (fun a ha => by rw [h31] at ha; cases ha)⟩
    | inl y1 =>
      obtain ⟨q2, c1⟩ := y1
      rw [h2] at hs
      replace hs : tb_ (sc_ B n F (-21) q2) (fun q3 c2 => if tk_ B n q3 = -22 then some (.inl (c0, c1, c2)) else some (.inr (ts_ B n q3))) = some res := hs
      refine mm_cV (as := [.int (-20)]) (st := []) (q := 31) cw_Re_section lk_Re_27 in_Re_section sl_Re_section rfl rfl (mm_at ok_Re_read (i := 15) rfl).1 (ct_Re_section dy1 g2 (nr_ g2) r2 rfl hN2 hn hB2 hi1.2.2 b2 b3 b4 (fun _ => by have := nx_le B n q1; omega) hw2 h2) (by decide) ⟨by omega, by omega⟩ (Nat.le_of_ble_eq_true rfl) (mm_vs_c (show 31 < (hp_SH ++ dy1).length by omega) (mm_vs_c (show (hp_SH ++ dy).length < (hp_SH ++ dy1).length by omega) (mm_vs_b (b := 0) rfl (Nat.zero_le _)))) (fun v h' hqq => ?_)
      obtain ⟨rfl, g3, r3, hqe, hr3, hF3, ⟨d2, d3, d4⟩, hc1, hw3, hl1⟩ := hqq
      rw [hqe] at hw3
      rw [hqe]
      obtain ⟨dy2, hdy2⟩ : ∃ x, x = dy1 ++ [(.inl (0, ((q2, c1) : Nat × List Int32).2.length) : mm_Sh)] := ⟨_, rfl⟩
      rw [← hdy2] at hw3 ⊢
      have hL2 : (hp_SH ++ dy2).length = (hp_SH ++ dy).length + 2 := by rw [hdy2, ← List.append_assoc, List.length_append, hL1]; rfl
      have hF3' : ∀ k j, k < (hp_SH ++ dy).length → f4_ k j = false → g3 k j = g k j := fun k j hk hf => (hF3 k j (by omega) hf).trans (hF2' k j hk hf)
      have hN3 : nr_ g3 31 1 = nI n := by rw [nr_eq g3 rfl, hF3' 31 1 (by omega) rfl, ← hN, ← hP, nr_eq g rfl]
      have hB3 : ∀ j, j < n → nr_ g3 32 j = B j := fun j hj => by rw [nr_eq g3 rfl, hF3' 32 j (by omega) rfl, ← hB j hj, ← hP, nr_eq g rfl]
      have hi2 := sc_inv hi1.2.2 h2
      have hq12 := nx_le B n q1
      refine mm_I ok_Re_read 16 2 32 [some (.ref 31), some (.ref (hp_SH ++ dy).length), some (.ref (hp_SH ++ dy1).length), none] [.ref (hp_SH ++ dy1).length] (hp_SH ++ dy2, g3, r3) [] rfl trivial rfl rfl (fun _ => ?_) (fun q => q.elim)
      refine mm_B ok_Re_read 21 2 (42, [some (.ref 31), some (.ref (hp_SH ++ dy).length), some (.ref (hp_SH ++ dy1).length), none], [.int (-21), .ref 31], (hp_SH ++ dy2, g3, r3)) [] rfl trivial ?_
      cases h3 : sc_ B n F (-21) q2 with
      | none => rw [h3] at hs; cases hs
      | some x3 =>
      cases x3 with
      | inr e =>
        rw [h3] at hs
        cases hs
        refine mm_cV (as := [.int (-21)]) (st := []) (q := 31) cw_Re_section lk_Re_27 in_Re_section sl_Re_section rfl rfl (mm_at ok_Re_read (i := 23) rfl).1 (ct_Re_section dy2 g3 (nr_ g3) r3 rfl hN3 hn hB3 hi2.2.2 d2 d3 d4 (fun _ => by have := nx_le B n q2; omega) hw3 h3) (by decide) ⟨by omega, by omega⟩ (Nat.le_of_ble_eq_true rfl) (mm_vs_c (show 31 < (hp_SH ++ dy2).length by omega) (mm_vs_c (show (hp_SH ++ dy).length < (hp_SH ++ dy2).length by omega) (mm_vs_c (show (hp_SH ++ dy1).length < (hp_SH ++ dy2).length by omega) (mm_vs_b (b := 0) rfl (Nat.zero_le _))))) (fun v h' hqq => ?_)
        obtain ⟨rfl, g4, hqe, hF4, h42⟩ := hqq; rw [hqe]
        have hw4 : mm_wf (hp_SH ++ dy2, g4, r3) := wf_fr hw3 hF4
        exact rd_tr ⟨by omega, by omega⟩ ⟨rfl, [_, _], _, r3, by rw [hdy2, hdy1, List.append_assoc]; rfl, Nat.le_of_ble_eq_true rfl, hr3.trans hr2, fun k j hk hf => ((f5_up hf).trans (hF4 k j (f5_f4 k j hf))).trans (hF3' k j hk (f5_f4 k j hf)), rfl, h42, wf_up hw4 (fun a ha => by rw [h31] at ha; cases ha)⟩
      | inl y2 =>
        obtain ⟨q3, c2⟩ := y2
        rw [h3] at hs
        refine mm_cV (as := [.int (-21)]) (st := []) (q := 31) cw_Re_section lk_Re_27 in_Re_section sl_Re_section rfl rfl (mm_at ok_Re_read (i := 23) rfl).1 (ct_Re_section dy2 g3 (nr_ g3) r3 rfl hN3 hn hB3 hi2.2.2 d2 d3 d4 (fun _ => by have := nx_le B n q2; omega) hw3 h3) (by decide) ⟨by omega, by omega⟩ (Nat.le_of_ble_eq_true rfl) (mm_vs_c (show 31 < (hp_SH ++ dy2).length by omega) (mm_vs_c (show (hp_SH ++ dy).length < (hp_SH ++ dy2).length by omega) (mm_vs_c (show (hp_SH ++ dy1).length < (hp_SH ++ dy2).length by omega) (mm_vs_b (b := 0) rfl (Nat.zero_le _))))) (fun v h' hqq => ?_)
        obtain ⟨rfl, g4, r4, hqe, hr4, hF4, ⟨e2, e3, e4⟩, hc2, hw4, hl2⟩ := hqq
        rw [hqe] at hw4
        rw [hqe]
        obtain ⟨dy3, hdy3⟩ : ∃ x, x = dy2 ++ [(.inl (0, ((q3, c2) : Nat × List Int32).2.length) : mm_Sh)] := ⟨_, rfl⟩
        rw [← hdy3] at hw4 ⊢
        have hL3 : (hp_SH ++ dy3).length = (hp_SH ++ dy).length + 3 := by rw [hdy3, ← List.append_assoc, List.length_append, hL2]; rfl
        have hF4' : ∀ k j, k < (hp_SH ++ dy).length → f4_ k j = false → g4 k j = g k j := fun k j hk hf => (hF4 k j (by omega) hf).trans (hF3' k j hk hf)
        have hw5 : mm_wf (hp_SH ++ dy3, mm_up g4 31 1 0, r4) := wf_up hw4 (fun a ha => by rw [h31] at ha; cases ha)
        have e4 : g4 31 4 = tk_ B n q3 := e4
        have hs : (if tk_ B n q3 = -22 then some (Sum.inl (c0, c1, c2)) else some (Sum.inr (ts_ B n q3))) = some res := hs
        refine mm_I ok_Re_read 24 5 52 [some (.ref 31), some (.ref (hp_SH ++ dy).length), some (.ref (hp_SH ++ dy1).length), some (.ref (hp_SH ++ dy2).length)] [.ref (hp_SH ++ dy2).length] (hp_SH ++ dy3, mm_up g4 31 1 0, r4) [] rfl trivial rfl rfl (fun q => q.elim) (fun _ => ?_)
        refine mm_B ok_Re_read 30 3 (61, [some (.ref 31), some (.ref (hp_SH ++ dy).length), some (.ref (hp_SH ++ dy1).length), some (.ref (hp_SH ++ dy2).length)], [.int (-22), .int (g4 31 4)], (hp_SH ++ dy3, mm_up g4 31 1 0, r4)) [] rfl trivial ?_
        rw [e4]
        by_cases h8 : tk_ B n q3 = -22
        · rw [if_pos h8] at hs
          cases hs
          refine mm_I ok_Re_read 33 0 61 [some (.ref 31), some (.ref (hp_SH ++ dy).length), some (.ref (hp_SH ++ dy1).length), some (.ref (hp_SH ++ dy2).length)] [.int (-22), .int (tk_ B n q3)] (hp_SH ++ dy3, mm_up g4 31 1 0, r4) [] rfl trivial rfl rfl (fun _ => ?_) (fun q => False.elim (q h8))
          refine mm_new (ci := 10) (h := (hp_SH ++ dy3, mm_up g4 31 1 0, r4)) rfl (by decide +kernel) kl_Re_25 ib_Te ii_Te (mm_at ok_Re_read (i := 36) rfl).1 ⟨by omega, by show _ + 3 ≤ _; omega⟩ hw5 (mm_vs_c (by show 31 < (hp_SH ++ dy3).length; omega) (mm_vs_c (by show _ < (hp_SH ++ dy3).length; omega) (mm_vs_c (by show _ < (hp_SH ++ dy3).length; omega) (mm_vs_c (by show _ < (hp_SH ++ dy3).length; omega) (mm_vs_b (b := 0) rfl (Nat.zero_le _)))))) ?_
          refine mm_B ok_Re_read 37 4 (75, [some (.ref 31), some (.ref (hp_SH ++ dy).length), some (.ref (hp_SH ++ dy1).length), some (.ref (hp_SH ++ dy2).length)], [.ref (hp_SH ++ dy2).length, .ref (hp_SH ++ dy1).length, .ref (hp_SH ++ dy).length, .ref (hp_SH ++ dy3).length, .ref (hp_SH ++ dy3).length], (mm_ad (hp_SH ++ dy3, mm_up g4 31 1 0, r4) (.inr (10, mm_df 10 3)))) [] rfl trivial ?_
          have hq9 : (mm_ad (hp_SH ++ dy3, mm_up g4 31 1 0, r4) (.inr (10, mm_df 10 3))).1[(hp_SH ++ dy3).length]? = some (.inr (10, [2, 2, 2])) := List.getElem?_concat_length
          refine mm_cI (as := [.ref (hp_SH ++ dy).length, .ref (hp_SH ++ dy1).length, .ref (hp_SH ++ dy2).length]) (st := [.ref (hp_SH ++ dy3).length]) (q := (hp_SH ++ dy3).length) cw_Te_init lk_Re_37 in_Te_init ⟨rfl, rfl⟩ (mm_at ok_Re_read (i := 41) rfl).1 (ct_Te_init (mm_ad (hp_SH ++ dy3, mm_up g4 31 1 0, r4) (.inr (10, mm_df 10 3))) hq9) (by decide) ⟨by omega, Nat.le_of_ble_eq_true rfl⟩ (Nat.le_of_ble_eq_true rfl) ?_ (fun v h' hqq => ?_)
          · have h9 : (mm_ad (hp_SH ++ dy3, mm_up g4 31 1 0, r4) (.inr (10, mm_df 10 3))).1.length = (hp_SH ++ dy).length + 4 := by show ((hp_SH ++ dy3) ++ [_]).length = _; rw [List.length_append, hL3]; rfl
            rw [h9]
            exact mm_vs_c (by omega) (mm_vs_c (by omega) (mm_vs_c (by omega) (mm_vs_c (by omega) (mm_vs_t (by omega) (mm_vs_b (b := 0) (lv := []) rfl (Nat.zero_le _))))))
          obtain ⟨rfl, hqe2⟩ := hqq
          rw [hqe2]
          have hset : (mm_ad (hp_SH ++ dy3, mm_up g4 31 1 0, r4) (.inr (10, mm_df 10 3))).1.set (hp_SH ++ dy3).length (.inr (10, [(hp_SH ++ dy).length + 3, (hp_SH ++ dy1).length + 3, (hp_SH ++ dy2).length + 3])) = (hp_SH ++ dy3) ++ [.inr (10, [(hp_SH ++ dy).length + 3, (hp_SH ++ dy1).length + 3, (hp_SH ++ dy2).length + 3])] := by
            show ((hp_SH ++ dy3) ++ [_]).set _ _ = _
            rw [List.set_append_right _ _ (Nat.le_refl _), Nat.sub_self]
            rfl
          rw [hset]
          have hz : ∀ k j, k < (hp_SH ++ dy3).length → mm_zc (mm_up g4 31 1 0) (hp_SH ++ dy3).length k j = mm_up g4 31 1 0 k j := fun k j hk => congrFun (mm_zc_ne (by omega)) j
          have hb : ∀ k j, 77 ≤ k → mm_up g4 31 1 0 k j = g4 k j := fun k j hk => congrFun (mm_up_ne (by omega)) j
          have hw6 : mm_wf ((hp_SH ++ dy3) ++ [.inr (10, [(hp_SH ++ dy).length + 3, (hp_SH ++ dy1).length + 3, (hp_SH ++ dy2).length + 3])], mm_zc (mm_up g4 31 1 0) (hp_SH ++ dy3).length, mm_zl r4.1 (hp_SH ++ dy3).length, r4.2) := wf_ad (c := .inr (10, [(hp_SH ++ dy).length + 3, (hp_SH ++ dy1).length + 3, (hp_SH ++ dy2).length + 3])) hw5 (fun a ha => by cases ha) (fun o ho f hf => by
            cases ho
            simp only [List.mem_cons, List.not_mem_nil, or_false] at hf
            show f < (hp_SH ++ dy3).length + 4
            rcases hf with rfl | rfl | rfl <;> omega)
          have hap : (hp_SH ++ dy3) ++ [(.inr (10, [(hp_SH ++ dy).length + 3, (hp_SH ++ dy1).length + 3, (hp_SH ++ dy2).length + 3]) : mm_Sh)] = hp_SH ++ (dy ++ [.inl (0, c0.length), .inl (0, c1.length), .inl (0, c2.length), .inr (10, [(hp_SH ++ dy).length + 3, (hp_SH ++ dy).length + 1 + 3, (hp_SH ++ dy).length + 2 + 3])]) := by
            rw [hL1, hL2, hdy3, hdy2, hdy1]
            simp only [List.append_assoc]
            rfl
          have hrf : (hp_SH ++ dy3).length = (hp_SH ++ dy).length + 3 := hL3
          exact mm_ra rfl (Or.inl ⟨_, rfl⟩) rfl (mm_at ok_Re_read (i := 42) rfl).1 ⟨by omega, Nat.le_of_ble_eq_true rfl⟩ (⟨by rw [hrf], mm_zc (mm_up g4 31 1 0) (hp_SH ++ dy3).length, (mm_zl r4.1 (hp_SH ++ dy3).length, r4.2), by rw [hap]; rfl, (hr4.trans hr3).trans hr2, fun k j hk hf => ((hz k j (by omega)).trans (f5_up hf)).trans (hF4' k j hk (f5_f4 k j hf)), hz 31 1 (by omega), ⟨fun i hi => ((hz _ i (by omega)).trans (hb _ i hL)).trans (((hF4 _ i (by omega) (f4_big hL)).trans (hF3 _ i (by omega) (f4_big hL))).trans (hc0 i hi)), fun i hi => ((hz _ i (by omega)).trans (hb _ i (by omega))).trans ((hF4 _ i (by omega) (f4_big (by omega))).trans (by rw [← hL1]; exact hc1 i hi)), fun i hi => ((hz _ i (by omega)).trans (hb _ i (by omega))).trans (by rw [← hL2]; exact hc2 i hi)⟩, hw6, hl0, hl1, hl2⟩)
        · rw [if_neg h8] at hs
          cases hs
          refine mm_I ok_Re_read 33 0 61 [some (.ref 31), some (.ref (hp_SH ++ dy).length), some (.ref (hp_SH ++ dy1).length), some (.ref (hp_SH ++ dy2).length)] [.int (-22), .int (tk_ B n q3)] (hp_SH ++ dy3, mm_up g4 31 1 0, r4) [] rfl trivial rfl rfl (fun q => False.elim (h8 q)) (fun _ => ?_)
          refine mm_B ok_Re_read 34 2 (78, [some (.ref 31), some (.ref (hp_SH ++ dy).length), some (.ref (hp_SH ++ dy1).length), some (.ref (hp_SH ++ dy2).length)], [.null], (hp_SH ++ dy3, mm_up g4 31 1 0, r4)) [] rfl trivial ?_
          exact mm_ra rfl (Or.inl ⟨_, rfl⟩) rfl (mm_at ok_Re_read (i := 42) rfl).1 ⟨by omega, by omega⟩ (⟨rfl, [_, _, _], mm_up g4 31 1 0, r4, by rw [hdy3, hdy2, hdy1]; simp only [List.append_assoc]; rfl, Nat.le_of_ble_eq_true rfl, (hr4.trans hr3).trans hr2, fun k j hk hf => (f5_up hf).trans (hF4' k j hk (f5_f4 k j hf)), rfl, e2, hw5⟩)

