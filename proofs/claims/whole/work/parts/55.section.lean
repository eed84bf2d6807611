/-! ===== Arrays.copyOf, Text's constructor, Reader.section, read ===== -/
theorem cp_at {g : Nat → Nat → Int32} {k L N : Nat} (hk : k ≠ L) : (∀ a b, a ≠ L → mm_cp (mm_zc g L) k L 0 0 N a b = g a b) ∧ ∀ i, i < N → mm_cp (mm_zc g L) k L 0 0 N L i = g k i := by
  refine ⟨fun a b ha => ?_, fun i hi => ?_⟩
  · simp [mm_cp, beq_false_of_ne ha, mm_zc]
  · simp [mm_cp, va_cpy, hi, mm_zc, beq_false_of_ne hk]
theorem wf_ad {h : mm_Hp} {c : mm_Sh} (hw : mm_wf h) (h1 : ∀ a, c = .inl a → a.1 < 2) (h2 : ∀ o, c = .inr o → ∀ f ∈ o.2, f < h.1.length + 4) : mm_wf (mm_ad h c) := by
  intro k c' hk
  have hlen : (mm_ad h c).1.length = h.1.length + 1 := by show (h.1 ++ [c]).length = _; rw [List.length_append]; rfl
  by_cases e : k < h.1.length
  · have hk' : h.1[k]? = some c' := by rw [← hk]; exact (List.getElem?_append_left e).symm
    obtain ⟨w1, w2⟩ := hw k c' hk'
    refine ⟨fun a ha => ?_, fun o ho f hf => ?_⟩
    · rcases w1 a ha with w | w
      · exact Or.inl w
      · right
        intro i
        rw [hlen, show (mm_ad h c).2.1 k = h.2.1 k from mm_zc_ne (by omega)]
        have := w i
        omega
    · have := w2 o ho f hf
      omega
  · have hk2 : k = h.1.length := by
      have := (List.getElem?_eq_some_iff.mp hk).1
      omega
    subst hk2
    have e9 : c' = c := by
      have : (h.1 ++ [c])[h.1.length]? = some c := List.getElem?_concat_length
      exact Option.some.inj (hk.symm.trans this)
    subst e9
    refine ⟨fun a ha => Or.inl (h1 a ha), fun o ho f hf => ?_⟩
    have := h2 o ho f hf
    omega
theorem wf_g {s : List mm_Sh} {g g' : Nat → Nat → Int32} {r r' : (Nat → Nat → Int64) × Nat × (Nat → Int32)} (hw : mm_wf (s, g, r)) (h : ∀ k a, s[k]? = some (.inl a) → ¬ a.1 < 2 → g' k = g k) : mm_wf (s, g', r') := by
  intro k c hk
  obtain ⟨w1, w2⟩ := hw k c hk
  refine ⟨fun a ha => ?_, w2⟩
  by_cases h2 : a.1 < 2
  · exact Or.inl h2
  · right
    intro i
    have e := h k a (by rw [← ha]; exact hk) h2
    show (g' k i).toNatClampNeg ≤ _
    rw [e]
    exact (w1 a ha).resolve_left h2 i
theorem hp_at (dy : List mm_Sh) {k : Nat} (hk : k < 77) : (hp_SH ++ dy)[k]? = hp_SH[k]? := List.getElem?_append_left hk
theorem wf_fr {dy : List mm_Sh} {g g' : Nat → Nat → Int32} {r r' : (Nat → Nat → Int64) × Nat × (Nat → Int32)} (hw : mm_wf (hp_SH ++ dy, g, r)) (hF : fr_ f4_ g g') : mm_wf (hp_SH ++ dy, g', r') := by
  refine wf_g hw (fun k a hk ha => ?_)
  funext j
  refine hF k j ?_
  cases h : f4_ k j with
  | false => rfl
  | true =>
    exfalso
    unfold f4_ at h
    rcases (Bool.or_eq_true _ _).mp h with h | h
    · have : k = 31 := by simpa using ((Bool.and_eq_true _ _).mp h).1
      subst this
      rw [hp_at dy (by decide)] at hk
      cases hk
    · have : k = 33 := by simpa using h
      subst this
      rw [hp_at dy (by decide)] at hk
      cases hk
      exact ha (by decide)
theorem mm_vs_o {n : Nat} {x : Option Value} {lv : mm_L} {st : List Value} (hx : ∀ k : Nat, x ≠ some (.ref k)) (h : mm_vs n lv st) : mm_vs n (x :: lv) st :=
  ⟨fun k hk => (List.mem_cons.mp hk).elim (fun e => absurd e.symm (hx k)) (h.1 k), h.2⟩
theorem ct_Ar_copyOf (h : mm_Hp) {k n0 N : Nat} (hs : h.1[k]? = some (.inl (0, n0))) (hN : N < n0) (h0 : n0 ≤ 100000) (hw : mm_wf h) : mm_Ct 2 M_Ar_copyOf [.ref k, .int (nI N)] h 1 N (fun v h' => v = some (.ref h.1.length) ∧ h' = (h.1 ++ [.inl (0, N)], mm_cp (mm_zc h.2.1 h.1.length) k h.1.length 0 0 N, mm_zl h.2.2.1 h.1.length, h.2.2.2)) := by
  have hlt : k < h.1.length := (List.getElem?_eq_some_iff.mp hs).1
  have hs1 : (mm_ad h (.inl (0, N))).1[k]? = some (.inl (0, n0)) := (List.getElem?_append_left hlt).trans hs
  have hs2 : (mm_ad h (.inl (0, N))).1[h.1.length]? = some (.inl (0, N)) := List.getElem?_concat_length
  refine mm_start pl_Ar (Nat.le_of_ble_eq_true rfl) ?_
  refine mm_B ok_Ar_copyOf 0 2 (2, [some (.ref k), some (.int (nI N)), none], [.ref k, .int (nI N)], h) [] rfl trivial ?_
  refine mm_ialn (by decide) hs (mm_at ok_Ar_copyOf (i := 2) rfl).1 ?_
  refine mm_I ok_Ar_copyOf 3 0 3 [some (.ref k), some (.int (nI N)), none] [.int (nI n0), .int (nI N)] h [] rfl trivial rfl rfl (fun _ => ?_) (fun q => False.elim (absurd ((nI_eq (by omega) (by omega)).mp q) (by omega)))
  refine mm_B ok_Ar_copyOf 8 1 (15, [some (.ref k), some (.int (nI N)), none], [.int (nI N)], h) [] rfl trivial ?_
  refine mm_newi (N := N) ac_int (nI_pos (by omega)) (nI_clamp (by omega)) (by omega) (mm_at ok_Ar_copyOf (i := 9) rfl).1 ⟨by omega, by omega⟩ hw (mm_vs_c hlt (mm_vs_b (b := 0) rfl (Nat.zero_le _))) ?_
  refine mm_B ok_Ar_copyOf 10 6 (23, [some (.ref k), some (.int (nI N)), some (.ref h.1.length)], [.ref k, .int 0, .ref h.1.length, .int 0, .ref k], (mm_ad h (.inl (0, N)))) [] rfl trivial ?_
  refine mm_ialn (n := n0) (by decide) hs1 (mm_at ok_Ar_copyOf (i := 16) rfl).1 ?_
  refine mm_B ok_Ar_copyOf 17 1 (25, [some (.ref k), some (.int (nI N)), some (.ref h.1.length)], [.int (nI N), .int (nI n0), .int 0, .ref h.1.length, .int 0, .ref k], (mm_ad h (.inl (0, N)))) [] rfl trivial ?_
  refine mm_min lk_Ar_304 (mm_at ok_Ar_copyOf (i := 18) rfl).1 (by decide) ⟨by omega, by omega⟩ (Nat.le_of_ble_eq_true rfl) ?_
  rw [if_pos (nI_lt hN (by omega))]
  refine mm_acopy lk_Ar_150 nt_copy sx_copy ii_System hs1 hs2 (by decide) (by decide) (nI_pos (by omega)) (by rw [nI_clamp (by omega)]; show 0 + N ≤ n0; omega) (by rw [nI_clamp (by omega)]; show 0 + N ≤ N; omega) (by decide) (Nat.le_of_ble_eq_true rfl) (mm_at ok_Ar_copyOf (i := 19) rfl).1 ?_
  rw [nI_clamp (show N < 2 ^ 31 by omega)]
  refine mm_B ok_Ar_copyOf 20 1 (32, [some (.ref k), some (.int (nI N)), some (.ref h.1.length)], [.ref h.1.length], ((mm_ad h (.inl (0, N))).1, mm_cp (mm_ad h (.inl (0, N))).2.1 k h.1.length 0 0 N, (mm_ad h (.inl (0, N))).2.2)) [] rfl trivial ?_
  exact mm_ra rfl (Or.inr ⟨_, rfl⟩) rfl (mm_at ok_Ar_copyOf (i := 21) rfl).1 ⟨by omega, by omega⟩ (⟨rfl, rfl⟩)
theorem ct_Te_init (h : mm_Hp) {q a b c : Nat} (hq : h.1[q]? = some (.inr (10, [2, 2, 2]))) : mm_Ct 2 M_Te_init [.ref q, .ref a, .ref b, .ref c] h 0 0 (fun v h' => v = none ∧ h' = (h.1.set q (.inr (10, [a + 3, b + 3, c + 3])), h.2)) := by
  have hlt : q < h.1.length := (List.getElem?_eq_some_iff.mp hq).1
  have hfin : ∀ (y : Nat) (w : vw_C), vwCl[10]? = some w → (w.2.1 y).2.2.2 = true → M_Te_init.1.name = "<init>" ∧ w.1 = M_Te_init.1.cls := fun y w hw _ => by cases hw; exact ⟨rfl, rfl⟩
  refine mm_start pl_Te (Nat.le_of_ble_eq_true rfl) ?_
  refine mm_B ok_Te_init 0 1 (1, [some (.ref q), some (.ref a), some (.ref b), some (.ref c)], [.ref q], h) [] rfl trivial ?_
  refine mm_cO lk_Te_1 in_Ob_init cd_Ob_init (mm_at ok_Te_init (i := 1) rfl).1 (by decide) (Nat.le_of_ble_eq_true rfl) ?_
  refine mm_B ok_Te_init 2 2 (6, [some (.ref q), some (.ref a), some (.ref b), some (.ref c)], [.ref a, .ref q], h) [] rfl trivial ?_
  refine mm_put (k := q) (ci := 10) (y := 0) (cd := 2) (fs := [2, 2, 2]) (cs := []) (h' := (h.1.set q (.inr (10, [a + 3, 2, 2])), h.2)) (mm_fm_lk (by decide +kernel)) (hfin 0) hq rfl rfl trivial (mm_at ok_Te_init (i := 4) rfl).1 ?_
  refine mm_B ok_Te_init 5 2 (11, [some (.ref q), some (.ref a), some (.ref b), some (.ref c)], [.ref b, .ref q], (h.1.set q (.inr (10, [a + 3, 2, 2])), h.2)) [] rfl trivial ?_
  refine mm_put (k := q) (ci := 10) (y := 1) (cd := 2) (fs := [a + 3, 2, 2]) (cs := []) (h' := ((h.1.set q (.inr (10, [a + 3, 2, 2]))).set q (.inr (10, [a + 3, b + 3, 2])), h.2)) (mm_fm_lk (by decide +kernel)) (hfin 1) (List.getElem?_set_self hlt) rfl rfl trivial (mm_at ok_Te_init (i := 7) rfl).1 ?_
  rw [List.set_set]
  refine mm_B ok_Te_init 8 2 (16, [some (.ref q), some (.ref a), some (.ref b), some (.ref c)], [.ref c, .ref q], (h.1.set q (.inr (10, [a + 3, b + 3, 2])), h.2)) [] rfl trivial ?_
  refine mm_put (k := q) (ci := 10) (y := 2) (cd := 2) (fs := [a + 3, b + 3, 2]) (cs := []) (h' := ((h.1.set q (.inr (10, [a + 3, b + 3, 2]))).set q (.inr (10, [a + 3, b + 3, c + 3])), h.2)) (mm_fm_lk (by decide +kernel)) (hfin 2) (List.getElem?_set_self hlt) rfl rfl trivial (mm_at ok_Te_init (i := 10) rfl).1 ?_
  rw [List.set_set]
  exact mm_r0 rfl (mm_at ok_Te_init (i := 11) rfl).1 ⟨Nat.le_refl _, Nat.le_refl _⟩ (⟨rfl, rfl⟩)
noncomputable def sc_ (B : Nat → Int32) (n F : Nat) (key : Int32) (q : Nat) : px_ := if tk_ B n q = key then pb_ (ps_ B n F 0 0 (nx_ B n q)) (fun q1 c => if tk_ B n q1 = -18 then some (.inl (nx_ B n q1, c)) else some (.inr (ts_ B n q1))) else some (.inr (ts_ B n q))
def se_Q (dy : List mm_Sh) (r : (Nat → Nat → Int64) × Nat × (Nat → Int32)) (B : Nat → Int32) (n : Nat) (g : Nat → Nat → Int32) : (Nat × List Int32) ⊕ Nat → Option Value → mm_Hp → Prop
  | .inl y => fun v h' => v = some (.ref (hp_SH ++ dy).length) ∧ ∃ g' r', h' = (hp_SH ++ (dy ++ [.inl (0, y.2.length)]), g', r') ∧ r'.2 = r.2 ∧ (∀ k j, k < (hp_SH ++ dy).length → f4_ k j = false → g' k j = g k j) ∧ (g' 31 2 = nI (ts_ B n y.1) ∧ g' 31 3 = nI (nx_ B n y.1) ∧ g' 31 4 = tk_ B n y.1) ∧ (∀ i, i < y.2.length → g' (hp_SH ++ dy).length i = y.2.getD i 0) ∧ mm_wf h' ∧ y.2.length ≤ 155
  | .inr e => fun v h' => v = some .null ∧ ∃ g', h' = (hp_SH ++ dy, g', r) ∧ fr_ f4_ g g' ∧ g' 31 2 = nI e
theorem ct_Re_section (dy : List mm_Sh) (g P : Nat → Nat → Int32) (r : (Nat → Nat → Int64) × Nat × (Nat → Int32)) (hP : nr_ g = P) {B : Nat → Int32} {n : Nat} (hN : P 31 1 = nI n) (hn : n ≤ 160) (hB : ∀ j, j < n → P 32 j = B j) {F q : Nat} {key : Int32} {res : (Nat × List Int32) ⊕ Nat} (hq : q ≤ n) (h2 : g 31 2 = nI (ts_ B n q)) (h3 : g 31 3 = nI (nx_ B n q)) (h4 : g 31 4 = tk_ B n q) (h5 : tk_ B n q = key → 5 ≤ nx_ B n q) (hw : mm_wf (hp_SH ++ dy, g, r)) (hs : sc_ B n F key q = some res) : mm_Ct 52 M_Re_section [.ref 31, .int key] (hp_SH ++ dy, g, r) 1 160 (se_Q dy r B n g res) := by
  unfold sc_ at hs
  refine mm_start pl_Re (Nat.le_of_ble_eq_true rfl) ?_
  refine mm_B ok_Re_section 0 6 (10, [some (.ref 31), some (.int key)], [.int key, .int (g 31 4)], (hp_SH ++ dy, mm_up g 31 6 0, r)) [] rfl trivial ?_
  rw [h4]
  have hF0 : fr_ f4_ g (mm_up g 31 6 0) := fr_.rf.up _ rfl
  have hP0 := hF0.nr f4_nr hP
  by_cases hk : tk_ B n q = key
  · rw [if_pos hk] at hs
    have hx2 := nx_ub B hq
    have hS0 : rs_S B n (mm_up g 31 6 0) q [] := ⟨h2, h3, h4, rfl, fun i hi => absurd hi (Nat.not_lt_zero i)⟩
    refine mm_I ok_Re_section 6 0 10 [some (.ref 31), some (.int key)] [.int key, .int (tk_ B n q)] (hp_SH ++ dy, mm_up g 31 6 0, r) [] rfl trivial rfl rfl (fun _ => ?_) (fun q => False.elim (q hk))
    refine mm_B ok_Re_section 9 1 (16, [some (.ref 31), some (.int key)], [.ref 31], (hp_SH ++ dy, mm_up g 31 6 0, r)) [] rfl trivial ?_
    refine mm_cV (as := []) (st := []) (q := 31) cw_Re_advance lk_Re_22 in_Re_advance sl_Re_advance rfl rfl (mm_at ok_Re_section (i := 10) rfl).1 (ct_Re_advance dy (mm_up g 31 6 0) P r hP0 hN hn hB hx2 h3) (by decide) ⟨by omega, by omega⟩ (Nat.le_of_ble_eq_true rfl) (mm_vs_b (b := 77) rfl (hp_len dy)) (fun v h' hqq => ?_)
    obtain ⟨rfl, g2, hqe, hF2, a2, a3, a4⟩ := hqq; rw [hqe]
    have hP2 := hF2.nr f3_nr hP0
    have hS2 := rs_adv hS0 hF2 a2 a3 a4
    have hF02 := hF0.tr (hF2.mono f4_f3)
    refine mm_B ok_Re_section 11 2 (21, [some (.ref 31), some (.int key)], [.int 0, .ref 31], (hp_SH ++ dy, g2, r)) [] rfl trivial ?_
    rcases pb_inv hs with ⟨e, h6, rfl⟩ | ⟨q1, c, h6, h7⟩
    · refine mm_cV (as := [.int 0]) (st := []) (q := 31) cw_Re_either lk_Re_43 in_Re_either sl_Re_either rfl rfl (mm_at ok_Re_section (i := 13) rfl).1 (rs_all dy P r hN hn hB F 0 0 (nx_ B n q) (.inr e) g2 [] (by decide) (by decide) hx2 h6 hP2 hS2 (h5 hk)) (by decide) ⟨by omega, by omega⟩ (Nat.le_of_ble_eq_true rfl) (mm_vs_b (b := 77) rfl (hp_len dy)) (fun v h' hqq => ?_)
      obtain ⟨rfl, g3, hqe, hF3, h32⟩ := hqq; rw [hqe]
      refine mm_I ok_Re_section 14 0 24 [some (.ref 31), some (.int key)] [.int 0] (hp_SH ++ dy, g3, r) [] rfl trivial rfl rfl (fun _ => ?_) (fun q => False.elim (q rfl))
      refine mm_B ok_Re_section 19 1 (37, [some (.ref 31), some (.int key)], [.null], (hp_SH ++ dy, g3, r)) [] rfl trivial ?_
      exact mm_ra rfl (Or.inr ⟨_, rfl⟩) rfl (mm_at ok_Re_section (i := 20) rfl).1 ⟨by omega, by omega⟩ (⟨rfl, g3, rfl, hF02.tr hF3, h32⟩)
    · have hl2 := ps_len F _ _ _ _ _ hx2 h6
      have h5' := h5 hk
      refine mm_cV (as := [.int 0]) (st := []) (q := 31) cw_Re_either lk_Re_43 in_Re_either sl_Re_either rfl rfl (mm_at ok_Re_section (i := 13) rfl).1 (rs_all dy P r hN hn hB F 0 0 (nx_ B n q) (.inl (q1, c)) g2 [] (by decide) (by decide) hx2 h6 hP2 hS2 (h5 hk)) (by decide) ⟨by omega, by omega⟩ (Nat.le_of_ble_eq_true rfl) (mm_vs_b (b := 77) rfl (hp_len dy)) (fun v h' hqq => ?_)
      obtain ⟨rfl, g3, hqe, hF3, hS3⟩ := hqq; rw [hqe]
      have hS3 : rs_S B n g3 q1 c := hS3
      have h34 := hS3.2.2.1
      have hF03 := hF02.tr hF3
      have hP3 := hF03.nr f4_nr hP
      refine mm_I ok_Re_section 14 0 24 [some (.ref 31), some (.int key)] [.int 1] (hp_SH ++ dy, g3, r) [] rfl trivial rfl rfl (fun q => False.elim (absurd q (by decide))) (fun _ => ?_)
      refine mm_B ok_Re_section 15 3 (33, [some (.ref 31), some (.int key)], [.int (-18), .int (g3 31 4)], (hp_SH ++ dy, g3, r)) [] rfl trivial ?_
      rw [h34]
      by_cases h8 : tk_ B n q1 = -18
      · rw [if_pos h8] at h7
        cases h7
        have hx3 := nx_ub B hl2.1.2
        refine mm_I ok_Re_section 18 0 33 [some (.ref 31), some (.int key)] [.int (-18), .int (tk_ B n q1)] (hp_SH ++ dy, g3, r) [] rfl trivial rfl rfl (fun _ => ?_) (fun q => False.elim (q h8))
        refine mm_B ok_Re_section 21 1 (39, [some (.ref 31), some (.int key)], [.ref 31], (hp_SH ++ dy, g3, r)) [] rfl trivial ?_
        refine mm_cV (as := []) (st := []) (q := 31) cw_Re_advance lk_Re_22 in_Re_advance sl_Re_advance rfl rfl (mm_at ok_Re_section (i := 22) rfl).1 (ct_Re_advance dy g3 P r hP3 hN hn hB hx3 hS3.2.1) (by decide) ⟨by omega, by omega⟩ (Nat.le_of_ble_eq_true rfl) (mm_vs_b (b := 77) rfl (hp_len dy)) (fun v h' hqq => ?_)
        obtain ⟨rfl, g4, hqe, hF4, b2, b3, b4⟩ := hqq; rw [hqe]
        have hS4 := rs_adv hS3 hF4 b2 b3 b4
        have hF04 := hF03.tr (hF4.mono f4_f3)
        have hw4 : mm_wf (hp_SH ++ dy, g4, r) := wf_fr hw hF04
        have h46 := hS4.2.2.2.1
        refine mm_B ok_Re_section 23 4 (50, [some (.ref 31), some (.int key)], [.int (g4 31 6), .ref 33], (hp_SH ++ dy, g4, r)) [] rfl trivial ?_
        rw [h46]
        refine mm_cS (as := [.ref 33, .int (nI c.length)]) (st := []) cw_Ar_copyOf lk_Re_47 sx_Ar_copyOf (mm_at ok_Re_section (i := 27) rfl).1 (ct_Ar_copyOf (hp_SH ++ dy, g4, r) (k := 33) (n0 := 160) (N := c.length) ((hp_at dy (by decide)).trans rfl) (by omega) (by decide) hw4) (by decide) ⟨by omega, by omega⟩ (Nat.le_of_ble_eq_true rfl) (mm_vs_b (b := 77) rfl (hp_len dy)) (fun v h' hqq => ?_)
        obtain ⟨rfl, hqe⟩ := hqq
        rw [hqe]
        have hL : 77 ≤ (hp_SH ++ dy).length := hp_len dy
        have hcp := cp_at (g := g4) (k := 33) (L := (hp_SH ++ dy).length) (N := c.length) (by omega)
        have hw6 : mm_wf (hp_SH ++ dy ++ [.inl (0, c.length)], mm_cp (mm_zc g4 (hp_SH ++ dy).length) 33 (hp_SH ++ dy).length 0 0 c.length, (mm_zl r.1 (hp_SH ++ dy).length, r.2)) := by
          have hw5 := wf_ad (c := .inl (0, c.length)) hw4 (fun a ha => by cases ha; exact Nat.zero_lt_two) (fun o ho => by cases ho)
          refine wf_g hw5 (fun k a hk ha => ?_)
          by_cases hkL : k = (hp_SH ++ dy).length
          · subst hkL
            have h9 : ((hp_SH ++ dy) ++ [(.inl (0, c.length) : mm_Sh)])[(hp_SH ++ dy).length]? = some (.inl (0, c.length)) := List.getElem?_concat_length
            have h10 := hk.symm.trans h9
            cases h10
            exact absurd Nat.zero_lt_two ha
          · funext j
            rw [hcp.1 k j hkL]
            exact (congrFun (mm_zc_ne (g := g4) hkL) j).symm
        exact mm_ra rfl (Or.inr ⟨_, rfl⟩) rfl (mm_at ok_Re_section (i := 28) rfl).1 ⟨by omega, by omega⟩ (⟨rfl, mm_cp (mm_zc g4 (hp_SH ++ dy).length) 33 (hp_SH ++ dy).length 0 0 c.length, (mm_zl r.1 (hp_SH ++ dy).length, r.2), by rw [← List.append_assoc], rfl, fun k j hk hf => (hcp.1 k j (by omega)).trans (hF04 k j hf), ⟨(hcp.1 31 2 (by omega)).trans hS4.1, (hcp.1 31 3 (by omega)).trans hS4.2.1, (hcp.1 31 4 (by omega)).trans hS4.2.2.1⟩, fun i hi => (hcp.2 i hi).trans (hS4.2.2.2.2 i hi), hw6, by show c.length ≤ 155; omega⟩)
      · rw [if_neg h8] at h7
        cases h7
        refine mm_I ok_Re_section 18 0 33 [some (.ref 31), some (.int key)] [.int (-18), .int (tk_ B n q1)] (hp_SH ++ dy, g3, r) [] rfl trivial rfl rfl (fun q => False.elim (h8 q)) (fun _ => ?_)
        refine mm_B ok_Re_section 19 1 (37, [some (.ref 31), some (.int key)], [.null], (hp_SH ++ dy, g3, r)) [] rfl trivial ?_
        exact mm_ra rfl (Or.inr ⟨_, rfl⟩) rfl (mm_at ok_Re_section (i := 20) rfl).1 ⟨by omega, by omega⟩ (⟨rfl, g3, rfl, hF03, hS3.1⟩)
  · rw [if_neg hk] at hs
    cases hs
    refine mm_I ok_Re_section 6 0 10 [some (.ref 31), some (.int key)] [.int key, .int (tk_ B n q)] (hp_SH ++ dy, mm_up g 31 6 0, r) [] rfl trivial rfl rfl (fun q => False.elim (hk q)) (fun _ => ?_)
    refine mm_B ok_Re_section 7 1 (14, [some (.ref 31), some (.int key)], [.null], (hp_SH ++ dy, mm_up g 31 6 0, r)) [] rfl trivial ?_
    exact mm_ra rfl (Or.inr ⟨_, rfl⟩) rfl (mm_at ok_Re_section (i := 8) rfl).1 ⟨by omega, by omega⟩ (⟨rfl, _, rfl, hF0, h2⟩)

