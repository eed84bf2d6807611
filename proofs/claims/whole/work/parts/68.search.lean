/-! ===== Arrays.fill; Search: listens, step, weigh ===== -/
theorem fi_go (s : List mm_Sh) (g : Nat → Nat → Int32) (r : (Nat → Nat → Int64) × Nat × (Nat → Int32)) {k n : Nat} (hs : s[k]? = some (.inl (0, n))) (hn : n ≤ 100000) (v : Int32) : ∀ (m i : Nat) (g1 : Nat → Nat → Int32), i + m = n → (∀ a j, a ≠ k → g1 a j = g a j) → (∀ j, j < i → g1 k j = v) → mm_W 1 M_Ar_fill 0 0 (fun u h' => u = none ∧ ∃ g', h' = (s, g', r) ∧ (∀ a j, a ≠ k → g' a j = g a j) ∧ ∀ j, j < n → g' k j = v) 0 0 (5, [some (.ref k), some (.int v), some (.int (nI i)), some (.int (nI n))], [], (s, g1, r)) := by
  intro m
  induction m with
  | zero =>
    intro i g1 hi hF h
    refine mm_I ok_Ar_fill 5 2 7 [some (.ref k), some (.int v), some (.int (nI i)), some (.int (nI n))] [.int (nI n), .int (nI i)] (s, g1, r) [] rfl trivial rfl rfl (fun _ => ?_) (fun q => False.elim (q (nI_le (by omega) (by omega))))
    exact mm_r0 rfl (mm_at ok_Ar_fill (i := 14) rfl).1 ⟨Nat.le_refl _, Nat.le_refl _⟩ (⟨rfl, g1, rfl, hF, fun j hj => h j (by omega)⟩)
  | succ m ih =>
    intro i g1 hi hF h
    refine mm_I ok_Ar_fill 5 2 7 [some (.ref k), some (.int v), some (.int (nI i)), some (.int (nI n))] [.int (nI n), .int (nI i)] (s, g1, r) [] rfl trivial rfl rfl (fun q => False.elim (nI_ge (show i < n by omega) (by omega) q)) (fun _ => ?_)
    refine mm_B ok_Ar_fill 8 3 (13, [some (.ref k), some (.int v), some (.int (nI i)), some (.int (nI n))], [.int v, .int (nI i), .ref k], (s, g1, r)) [] rfl trivial ?_
    refine mm_iast hs (nI_vi (show i < n by omega) (by omega)) (mm_at ok_Ar_fill (i := 11) rfl).1 ?_
    rw [nI_clamp (show i < 2 ^ 31 by omega)]
    refine mm_B ok_Ar_fill 12 2 (5, [some (.ref k), some (.int v), some (.int ((nI i) + 1)), some (.int (nI n))], [], (s, mm_up g1 k i v, r)) [] rfl trivial ?_
    rw [nI_1]
    exact ih (i + 1) _ (by omega) (fun a j ha => (congrFun (mm_up_ne ha) j).trans (hF a j ha)) (fun j hj => by
      by_cases e : j = i
      · rw [e, mm_up_at]
      · rw [mm_up_no e]; exact h j (by omega))
theorem ct_Ar_fill (s : List mm_Sh) (g : Nat → Nat → Int32) (r : (Nat → Nat → Int64) × Nat × (Nat → Int32)) {k n : Nat} (hs : s[k]? = some (.inl (0, n))) (hn : n ≤ 100000) (v : Int32) : mm_Ct 1 M_Ar_fill [.ref k, .int v] (s, g, r) 0 0 (fun u h' => u = none ∧ ∃ g', h' = (s, g', r) ∧ (∀ a j, a ≠ k → g' a j = g a j) ∧ ∀ j, j < n → g' k j = v) := by
  refine mm_start pl_Ar (Nat.le_of_ble_eq_true rfl) ?_
  refine mm_B ok_Ar_fill 0 3 (3, [some (.ref k), some (.int v), some (.int 0), none], [.ref k], (s, g, r)) [] rfl trivial ?_
  refine mm_ialn (by decide) hs (mm_at ok_Ar_fill (i := 3) rfl).1 ?_
  refine mm_B ok_Ar_fill 4 1 (5, [some (.ref k), some (.int v), some (.int 0), some (.int (nI n))], [], (s, g, r)) [] rfl trivial ?_
  exact fi_go s g r hs hn v n 0 g (Nat.zero_add _) (fun _ _ _ => rfl) (fun j hj => absurd hj (Nat.not_lt_zero j))
def nc_ (C : Nat → List Int32) (ag : Nat → Nat) (g : Nat → Nat → Int32) : Prop := ∀ i, i < 5040 → g 29 i = -1 ∨ g 29 i = vh_ C ag i
def vg_ (T : sp_T) (C : Nat → List Int32) (ag : Nat → Nat) (i : Nat) : Nat := sp_gn (sp_value T (i / 35 % 4)) (sp_W C ag (i / 140) (i / 35 % 4) (i / 7 % 5) (i % 7))
def ng_ (T : sp_T) (C : Nat → List Int32) (ag : Nat → Nat) (g : Nat → Nat → Int32) : Prop := ∀ i, i < 840 → g 30 i = -1 ∨ g 30 i = nI (vg_ T C ag i)
theorem vg_at {T : sp_T} {C : Nat → List Int32} {ag : Nat → Nat} {c l k o : Nat} (hl : l < 4) (hk : k < 5) (ho : o < 7) : vg_ T C ag (((c * 4 + l) * 5 + k) * 7 + o) = sp_gn (sp_value T l) (sp_W C ag c l k o) := by
  unfold vg_
  rw [show (((c * 4 + l) * 5 + k) * 7 + o) / 140 = c by omega, show (((c * 4 + l) * 5 + k) * 7 + o) / 35 % 4 = l by omega, show (((c * 4 + l) * 5 + k) * 7 + o) / 7 % 5 = k by omega, show (((c * 4 + l) * 5 + k) * 7 + o) % 7 = o by omega]
def fk_ (k j : Nat) : Bool := f1_ k j || (k == 29 || k == 30)
theorem fk_f1 : ∀ k j, fk_ k j = false → f1_ k j = false := fun k j h => (Bool.or_eq_false_iff.mp h).1
theorem fk_nr : ∀ k j, nr_s k j = false → fk_ k j = false := by
  intro k j h
  unfold fk_
  rw [f1_nr k j h]
  cases h29 : k == 29 with
  | true => rw [show k = 29 by simpa using h29] at h; cases h
  | false =>
    cases h30 : k == 30 with
    | true => rw [show k = 30 by simpa using h30] at h; cases h
    | false => rfl
theorem nc_up {C : Nat → List Int32} {ag : Nat → Nat} {g g1 : Nat → Nat → Int32} {i : Nat} {z : Int32} (h : nc_ C ag g) (hF : fr_ f1_ g g1) (hz : vh_ C ag i = z) : nc_ C ag (mm_up g1 29 i z) := by
  intro j hj
  by_cases e : j = i
  · subst e
    right
    rw [mm_up_at]
    exact hz.symm
  · rw [mm_up_no e, hF 29 j rfl]
    exact h j hj
theorem ng_up {T : sp_T} {C : Nat → List Int32} {ag : Nat → Nat} {g g1 : Nat → Nat → Int32} {i : Nat} {z : Nat} (h : ng_ T C ag g) (hF : fr_ f1_ g g1) (hz : vg_ T C ag i = z) : ng_ T C ag (mm_up g1 30 i (nI z)) := by
  intro j hj
  by_cases e : j = i
  · subst e
    right
    rw [mm_up_at, hz]
  · rw [mm_up_no e, hF 30 j rfl]
    exact h j hj
theorem nc_fr {C : Nat → List Int32} {ag : Nat → Nat} {g g' : Nat → Nat → Int32} (h : nc_ C ag g) (hF : ∀ i, g' 29 i = g 29 i) : nc_ C ag g' := fun i hi => by rw [hF]; exact h i hi
theorem ng_fr {T : sp_T} {C : Nat → List Int32} {ag : Nat → Nat} {g g' : Nat → Nat → Int32} (h : ng_ T C ag g) (hF : ∀ i, g' 30 i = g 30 i) : ng_ T C ag g' := fun i hi => by rw [hF]; exact h i hi
theorem ct_Se_listens (dy : List mm_Sh) (g P : Nat → Nat → Int32) (r : (Nat → Nat → Int64) × Nat × (Nat → Int32)) (hP : nr_ g = P) {C : Nat → List Int32} (hR : rt_R dy P C) {T : sp_T} (hL : rl_L T P) {ag : Nat → Nat} {b c l : Nat} {cs : sp_C} (hnc : nc_ C ag g) (hb : b < 6) (hc : c < 6) (hl : l < T.1) (hag : P 8 c = nI (ag c)) (hcs : ∀ i, i < 4 → cs.1 i ≤ b ∧ cs.2 i ≤ b) : mm_Ct 6 M_Se_listens [.ref 25, .ref 1, .int (nI c), .int (nI b), .int (nI l), .int (nI (sp_enc cs))] (hp_SH ++ dy, g, r) 0 0 (fun v h' => v = some (.int (if sp_H C ag c b l (sp_pc (sp_has T cs.2 b)) (cs.1 l) = true then 1 else 0)) ∧ ∃ g', h' = (hp_SH ++ dy, g', r) ∧ fr_ fk_ g g' ∧ (∀ i, g' 30 i = g 30 i) ∧ nc_ C ag g') := by
  have h4 := hL.2.1
  have hok : sp_ok cs := fun i hi => by have := hcs i hi; omega
  have hh := sp_has_lt T cs.2 b h4
  have hk5 := sp_pc_lt _ hh
  have ho7 : cs.1 l < 7 := by have := hcs l (by omega); omega
  have hv := vh_at (C := C) (ag := ag) (b := b) (c := c) (l := l) (k := sp_pc (sp_has T cs.2 b)) (o := cs.1 l) hc (by omega) hk5 ho7
  have hi : ixh b c l (sp_pc (sp_has T cs.2 b)) (cs.1 l) < 5040 := by unfold ixh; omega
  generalize hix : ixh b c l (sp_pc (sp_has T cs.2 b)) (cs.1 l) = i at hv hi
  refine mm_start pl_Se (Nat.le_of_ble_eq_true rfl) ?_
  refine mm_B ok_Se_listens 0 3 (4, [some (.ref 25), some (.ref 1), some (.int (nI c)), some (.int (nI b)), some (.int (nI l)), some (.int (nI (sp_enc cs))), none, none, none], [.int (nI b), .int (nI (sp_enc cs)), .ref 1], (hp_SH ++ dy, g, r)) [] rfl trivial ?_
  refine mm_cV (as := [.int (nI (sp_enc cs)), .int (nI b)]) (st := []) (q := 1) cw_Sp_owned lk_Se_81 in_Sp_owned sl_Sp_owned rfl rfl (mm_at ok_Se_listens (i := 3) rfl).1 (ct_Sp_owned dy g P r hP hL hok hb (fun i hi => by have := (hcs i (by omega)).2; omega)) (by decide) ⟨by omega, by omega⟩ (Nat.le_of_ble_eq_true rfl) (mm_vs_b (b := 77) rfl (hp_len dy)) (fun v h' hqq => ?_)
  obtain ⟨rfl, hqe⟩ := hqq; rw [hqe]
  refine mm_cS (as := [.int (nI (sp_has T cs.2 b))]) (st := []) cw_In_bitCount lk_Se_85 sx_In_bitCount (mm_at ok_Se_listens (i := 4) rfl).1 (ct_In_bitCount (hp_SH ++ dy, g, r) (nI (sp_has T cs.2 b))) (by decide) ⟨by omega, by omega⟩ (Nat.le_of_ble_eq_true rfl) (mm_vs_b (b := 77) rfl (hp_len dy)) (fun v h' hqq => ?_)
  obtain ⟨rfl, hqe⟩ := hqq; rw [hqe, pc_bc _ hh]
  refine mm_B ok_Se_listens 5 3 (16, [some (.ref 25), some (.ref 1), some (.int (nI c)), some (.int (nI b)), some (.int (nI l)), some (.int (nI (sp_enc cs))), some (.int (nI (sp_pc (sp_has T cs.2 b)))), none, none], [.int (nI l), .int (nI (sp_enc cs))], (hp_SH ++ dy, g, r)) [] rfl trivial ?_
  refine mm_cS (as := [.int (nI (sp_enc cs)), .int (nI l)]) (st := []) cw_Sp_timesHeard lk_Se_91 sx_Sp_timesHeard (mm_at ok_Se_listens (i := 8) rfl).1 (ct_Sp_timesHeard (hp_SH ++ dy, g, r) (nI (sp_enc cs)) (nI l)) (by decide) ⟨by omega, by omega⟩ (Nat.le_of_ble_eq_true rfl) (mm_vs_b (b := 77) rfl (hp_len dy)) (fun v h' hqq => ?_)
  obtain ⟨rfl, hqe⟩ := hqq; rw [hqe, me_times hok (by omega)]
  refine mm_B ok_Se_listens 9 19 (45, [some (.ref 25), some (.ref 1), some (.int (nI c)), some (.int (nI b)), some (.int (nI l)), some (.int (nI (sp_enc cs))), some (.int (nI (sp_pc (sp_has T cs.2 b)))), some (.int (nI (cs.1 l))), some (.int (((((((((nI b) * 6) + (nI c)) * 4) + (nI l)) * 5) + (nI (sp_pc (sp_has T cs.2 b)))) * 7) + (nI (cs.1 l))))], [], (hp_SH ++ dy, g, r)) [] rfl trivial ?_
  rw [ix_nI, hix]
  refine mm_B ok_Se_listens 28 5 (53, [some (.ref 25), some (.ref 1), some (.int (nI c)), some (.int (nI b)), some (.int (nI l)), some (.int (nI (sp_enc cs))), some (.int (nI (sp_pc (sp_has T cs.2 b)))), some (.int (nI (cs.1 l))), some (.int (nI i))], [.int (-1), .int (g 29 ((nI i).toNatClampNeg))], (hp_SH ++ dy, g, r)) [vp_in (nI i) 5040] rfl (show vp_in (nI i) 5040 from (nI_vi hi (by decide))) ?_
  rw [nI_clamp (show i < 2 ^ 31 by omega)]
  by_cases hm : g 29 i = -1
  · refine mm_I ok_Se_listens 33 0 53 [some (.ref 25), some (.ref 1), some (.int (nI c)), some (.int (nI b)), some (.int (nI l)), some (.int (nI (sp_enc cs))), some (.int (nI (sp_pc (sp_has T cs.2 b)))), some (.int (nI (cs.1 l))), some (.int (nI i))] [.int (-1), .int (g 29 i)] (hp_SH ++ dy, g, r) [] rfl trivial rfl rfl (fun q => False.elim (absurd hm q)) (fun _ => ?_)
    refine mm_B ok_Se_listens 34 9 (71, [some (.ref 25), some (.ref 1), some (.int (nI c)), some (.int (nI b)), some (.int (nI l)), some (.int (nI (sp_enc cs))), some (.int (nI (sp_pc (sp_has T cs.2 b)))), some (.int (nI (cs.1 l))), some (.int (nI i))], [.int (nI (cs.1 l)), .int (nI (sp_pc (sp_has T cs.2 b))), .int (nI l), .int (nI b), .int (nI c), .ref 1, .int (nI i), .ref 29], (hp_SH ++ dy, g, r)) [] rfl trivial ?_
    refine mm_cV (as := [.int (nI c), .int (nI b), .int (nI l), .int (nI (sp_pc (sp_has T cs.2 b))), .int (nI (cs.1 l))]) (st := [.int (nI i), .ref 29]) (q := 1) cw_Sp_hears lk_Se_94 in_Sp_hears sl_Sp_hears rfl rfl (mm_at ok_Se_listens (i := 43) rfl).1 (ct_Sp_hears dy g P r hP hR (ag := ag) (b := b) (l := l) (k := sp_pc (sp_has T cs.2 b)) (o := cs.1 l) hc hag) (by decide) ⟨by omega, by omega⟩ (Nat.le_of_ble_eq_true rfl) (mm_vs_b (b := 77) rfl (hp_len dy)) (fun v h' hqq => ?_)
    obtain ⟨rfl, g1, hqe, hF1⟩ := hqq; rw [hqe]
    by_cases hH : sp_H C ag c b l (sp_pc (sp_has T cs.2 b)) (cs.1 l) = true
    · rw [if_pos hH] at hv ⊢
      refine mm_I ok_Se_listens 44 0 74 [some (.ref 25), some (.ref 1), some (.int (nI c)), some (.int (nI b)), some (.int (nI l)), some (.int (nI (sp_enc cs))), some (.int (nI (sp_pc (sp_has T cs.2 b)))), some (.int (nI (cs.1 l))), some (.int (nI i))] [.int 1, .int (nI i), .ref 29] (hp_SH ++ dy, g1, r) [] rfl trivial rfl rfl (fun q => False.elim (absurd q (by decide))) (fun _ => ?_)
      refine mm_B ok_Se_listens 45 2 (82, [some (.ref 25), some (.ref 1), some (.int (nI c)), some (.int (nI b)), some (.int (nI l)), some (.int (nI (sp_enc cs))), some (.int (nI (sp_pc (sp_has T cs.2 b)))), some (.int (nI (cs.1 l))), some (.int (nI i))], [.int 1, .int (nI i), .ref 29], (hp_SH ++ dy, g1, r)) [] rfl trivial ?_
      refine mm_B ok_Se_listens 48 6 (91, [some (.ref 25), some (.ref 1), some (.int (nI c)), some (.int (nI b)), some (.int (nI l)), some (.int (nI (sp_enc cs))), some (.int (nI (sp_pc (sp_has T cs.2 b)))), some (.int (nI (cs.1 l))), some (.int (nI i))], [.int 1, .int ((mm_up g1 29 ((nI i).toNatClampNeg) 1) 29 ((nI i).toNatClampNeg))], (hp_SH ++ dy, mm_up g1 29 ((nI i).toNatClampNeg) 1, r)) [vp_in (nI i) 5040, vp_in (nI i) 5040] rfl (show (vp_in (nI i) 5040) ∧ (vp_in (nI i) 5040) from ⟨(nI_vi hi (by decide)), (nI_vi hi (by decide))⟩) ?_
      rw [nI_clamp (show i < 2 ^ 31 by omega), mm_up_at]
      refine mm_I ok_Se_listens 54 0 91 [some (.ref 25), some (.ref 1), some (.int (nI c)), some (.int (nI b)), some (.int (nI l)), some (.int (nI (sp_enc cs))), some (.int (nI (sp_pc (sp_has T cs.2 b)))), some (.int (nI (cs.1 l))), some (.int (nI i))] [.int 1, .int 1] (hp_SH ++ dy, mm_up g1 29 i 1, r) [] rfl trivial rfl rfl (fun q => False.elim (q rfl)) (fun _ => ?_)
      refine mm_B ok_Se_listens 55 2 (99, [some (.ref 25), some (.ref 1), some (.int (nI c)), some (.int (nI b)), some (.int (nI l)), some (.int (nI (sp_enc cs))), some (.int (nI (sp_pc (sp_has T cs.2 b)))), some (.int (nI (cs.1 l))), some (.int (nI i))], [.int 1], (hp_SH ++ dy, mm_up g1 29 i 1, r)) [] rfl trivial ?_
      exact mm_rz rfl (mm_at ok_Se_listens (i := 58) rfl).1 ⟨Nat.le_refl _, Nat.le_refl _⟩ (Or.inr rfl) (⟨rfl, _, rfl, (hF1.mono fk_f1).up _ rfl, fun j => hF1 30 j rfl, nc_up hnc hF1 hv⟩)
    · rw [if_neg hH] at hv ⊢
      refine mm_I ok_Se_listens 44 0 74 [some (.ref 25), some (.ref 1), some (.int (nI c)), some (.int (nI b)), some (.int (nI l)), some (.int (nI (sp_enc cs))), some (.int (nI (sp_pc (sp_has T cs.2 b)))), some (.int (nI (cs.1 l))), some (.int (nI i))] [.int 0, .int (nI i), .ref 29] (hp_SH ++ dy, g1, r) [] rfl trivial rfl rfl (fun _ => ?_) (fun q => False.elim (q rfl))
      refine mm_B ok_Se_listens 47 7 (91, [some (.ref 25), some (.ref 1), some (.int (nI c)), some (.int (nI b)), some (.int (nI l)), some (.int (nI (sp_enc cs))), some (.int (nI (sp_pc (sp_has T cs.2 b)))), some (.int (nI (cs.1 l))), some (.int (nI i))], [.int 1, .int ((mm_up g1 29 ((nI i).toNatClampNeg) 0) 29 ((nI i).toNatClampNeg))], (hp_SH ++ dy, mm_up g1 29 ((nI i).toNatClampNeg) 0, r)) [vp_in (nI i) 5040, vp_in (nI i) 5040] rfl (show (vp_in (nI i) 5040) ∧ (vp_in (nI i) 5040) from ⟨(nI_vi hi (by decide)), (nI_vi hi (by decide))⟩) ?_
      rw [nI_clamp (show i < 2 ^ 31 by omega), mm_up_at]
      refine mm_I ok_Se_listens 54 0 91 [some (.ref 25), some (.ref 1), some (.int (nI c)), some (.int (nI b)), some (.int (nI l)), some (.int (nI (sp_enc cs))), some (.int (nI (sp_pc (sp_has T cs.2 b)))), some (.int (nI (cs.1 l))), some (.int (nI i))] [.int 1, .int 0] (hp_SH ++ dy, mm_up g1 29 i 0, r) [] rfl trivial rfl rfl (fun _ => ?_) (fun q => False.elim (absurd q (by decide)))
      refine mm_B ok_Se_listens 57 1 (99, [some (.ref 25), some (.ref 1), some (.int (nI c)), some (.int (nI b)), some (.int (nI l)), some (.int (nI (sp_enc cs))), some (.int (nI (sp_pc (sp_has T cs.2 b)))), some (.int (nI (cs.1 l))), some (.int (nI i))], [.int 0], (hp_SH ++ dy, mm_up g1 29 i 0, r)) [] rfl trivial ?_
      exact mm_rz rfl (mm_at ok_Se_listens (i := 58) rfl).1 ⟨Nat.le_refl _, Nat.le_refl _⟩ (Or.inl rfl) (⟨rfl, _, rfl, (hF1.mono fk_f1).up _ rfl, fun j => hF1 30 j rfl, nc_up hnc hF1 hv⟩)
  · have hg : g 29 i = vh_ C ag i := (hnc i hi).resolve_left hm
    rw [hv] at hg
    refine mm_I ok_Se_listens 33 0 53 [some (.ref 25), some (.ref 1), some (.int (nI c)), some (.int (nI b)), some (.int (nI l)), some (.int (nI (sp_enc cs))), some (.int (nI (sp_pc (sp_has T cs.2 b)))), some (.int (nI (cs.1 l))), some (.int (nI i))] [.int (-1), .int (g 29 i)] (hp_SH ++ dy, g, r) [] rfl trivial rfl rfl (fun _ => ?_) (fun q => False.elim (hm q))
    refine mm_B ok_Se_listens 49 5 (91, [some (.ref 25), some (.ref 1), some (.int (nI c)), some (.int (nI b)), some (.int (nI l)), some (.int (nI (sp_enc cs))), some (.int (nI (sp_pc (sp_has T cs.2 b)))), some (.int (nI (cs.1 l))), some (.int (nI i))], [.int 1, .int (g 29 ((nI i).toNatClampNeg))], (hp_SH ++ dy, g, r)) [vp_in (nI i) 5040] rfl (show vp_in (nI i) 5040 from (nI_vi hi (by decide))) ?_
    rw [nI_clamp (show i < 2 ^ 31 by omega)]
    by_cases hH : sp_H C ag c b l (sp_pc (sp_has T cs.2 b)) (cs.1 l) = true
    · rw [if_pos hH] at hg ⊢
      refine mm_I ok_Se_listens 54 0 91 [some (.ref 25), some (.ref 1), some (.int (nI c)), some (.int (nI b)), some (.int (nI l)), some (.int (nI (sp_enc cs))), some (.int (nI (sp_pc (sp_has T cs.2 b)))), some (.int (nI (cs.1 l))), some (.int (nI i))] [.int 1, .int (g 29 i)] (hp_SH ++ dy, g, r) [] rfl trivial rfl rfl (fun q => False.elim (q hg)) (fun _ => ?_)
      refine mm_B ok_Se_listens 55 2 (99, [some (.ref 25), some (.ref 1), some (.int (nI c)), some (.int (nI b)), some (.int (nI l)), some (.int (nI (sp_enc cs))), some (.int (nI (sp_pc (sp_has T cs.2 b)))), some (.int (nI (cs.1 l))), some (.int (nI i))], [.int 1], (hp_SH ++ dy, g, r)) [] rfl trivial ?_
      exact mm_rz rfl (mm_at ok_Se_listens (i := 58) rfl).1 ⟨Nat.le_refl _, Nat.le_refl _⟩ (Or.inr rfl) (⟨rfl, g, rfl, fr_.rf, fun _ => rfl, hnc⟩)
    · rw [if_neg hH] at hg ⊢
      refine mm_I ok_Se_listens 54 0 91 [some (.ref 25), some (.ref 1), some (.int (nI c)), some (.int (nI b)), some (.int (nI l)), some (.int (nI (sp_enc cs))), some (.int (nI (sp_pc (sp_has T cs.2 b)))), some (.int (nI (cs.1 l))), some (.int (nI i))] [.int 1, .int (g 29 i)] (hp_SH ++ dy, g, r) [] rfl trivial rfl rfl (fun _ => ?_) (fun q => False.elim (absurd (hg.symm.trans q) (by decide)))
      refine mm_B ok_Se_listens 57 1 (99, [some (.ref 25), some (.ref 1), some (.int (nI c)), some (.int (nI b)), some (.int (nI l)), some (.int (nI (sp_enc cs))), some (.int (nI (sp_pc (sp_has T cs.2 b)))), some (.int (nI (cs.1 l))), some (.int (nI i))], [.int 0], (hp_SH ++ dy, g, r)) [] rfl trivial ?_
      exact mm_rz rfl (mm_at ok_Se_listens (i := 58) rfl).1 ⟨Nat.le_refl _, Nat.le_refl _⟩ (Or.inl rfl) (⟨rfl, g, rfl, fr_.rf, fun _ => rfl, hnc⟩)
def ft_ (b k j : Nat) : Bool := fk_ k j || (k == 28 && (Nat.ble (6 * b) j && Nat.ble j (6 * b + 5)))
theorem ft_fk {b : Nat} : ∀ k j, ft_ b k j = false → fk_ k j = false := fun k j h => (Bool.or_eq_false_iff.mp h).1
theorem ft_nr {b : Nat} : ∀ k j, nr_s k j = false → ft_ b k j = false := by
  intro k j h
  unfold ft_
  rw [fk_nr k j h]
  cases h28 : k == 28 with
  | true => rw [show k = 28 by simpa using h28] at h; cases h
  | false => rfl
theorem ft_in {b c : Nat} (hc : c < 6) : ft_ b 28 (6 * b + c) = true := by
  unfold ft_
  have h1 : Nat.ble (6 * b) (6 * b + c) = true := Nat.ble_eq_true_of_le (by omega)
  have h2 : Nat.ble (6 * b + c) (6 * b + 5) = true := Nat.ble_eq_true_of_le (by omega)
  rw [h1, h2]
  simp
theorem ft_out {b b' c : Nat} (hb : b' ≠ b) (hc : c < 6) : ft_ b 28 (6 * b' + c) = false := by
  unfold ft_ fk_ f1_
  have h12 : (Nat.ble (6 * b) (6 * b' + c) && Nat.ble (6 * b' + c) (6 * b + 5)) = false := by
    cases h1 : Nat.ble (6 * b) (6 * b' + c) with
    | false => rfl
    | true =>
      cases h2 : Nat.ble (6 * b' + c) (6 * b + 5) with
      | false => rfl
      | true =>
        have a1 := Nat.le_of_ble_eq_true h1
        have a2 := Nat.le_of_ble_eq_true h2
        exact absurd (show b' = b by omega) hb
  rw [h12]
  rfl
theorem mul6' (b c : Nat) : nI b * 6 + nI c = nI (6 * b + c) := by rw [show nI b * 6 = nI (b * 6) from nI_mul b 6, nI_add, Nat.mul_comm]
/-- row b of memories holds the children's springs of the code x -/
def mr_ (T : sp_T) (C : Nat → List Int32) (K : sp_K) (g : Nat → Nat → Int32) (b x : Nat) : Prop := ∀ c, c < K.1 → g 28 (6 * b + c) = nI (sp_enc (rc_ T C K c b x))
def st_Q (dy : List mm_Sh) (g : Nat → Nat → Int32) (r : (Nat → Nat → Int64) × Nat × (Nat → Int32)) (T : sp_T) (C : Nat → List Int32) (K : sp_K) (b x d : Nat) : Option Value → mm_Hp → Prop := fun v h' => ∃ z : Int32, v = some (.int z) ∧ (z = 0 ∨ z = 1) ∧ (z = 0 → ∀ c, c < K.1 → rc_ T C K c (b + 1) (x * (T.1 + 1) + d) = rc_ T C K c (b + 1) (x * (T.1 + 1) + 0)) ∧ ∃ g', h' = (hp_SH ++ dy, g', r) ∧ fr_ (ft_ (b + 1)) g g' ∧ (∀ i, g' 30 i = g 30 i) ∧ nc_ C K.2.2.2 g' ∧ mr_ T C K g' (b + 1) (x * (T.1 + 1) + d)
theorem rc_no {T : sp_T} {C : Nat → List Int32} {K : sp_K} {c b x : Nat} : rc_ T C K c (b + 1) (x * (T.1 + 1) + 0) = rc_ T C K c b x := by
  unfold rc_
  rw [rp_st (Nat.succ_pos _)]
  show (if _ then rp_ _ _ _ _ _ _ _ else _) = _
  split <;> rfl
theorem sp_go (dy : List mm_Sh) (g P : Nat → Nat → Int32) (r : (Nat → Nat → Int64) × Nat × (Nat → Int32)) (hP : nr_ g = P) {C : Nat → List Int32} (hR : rt_R dy P C) {T : sp_T} (hL : rl_L T P) {K : sp_K} (hK : rl_C K P) {b x d : Nat} (hb : b < 6) (hd : d < T.1 + 1) (h0 : mr_ T C K g b x) : ∀ (m k : Nat) (z : Int32) (g1 : Nat → Nat → Int32), k + m = K.1 → (z = 0 ∨ z = 1) → (z = 0 → ∀ c, c < k → rc_ T C K c (b + 1) (x * (T.1 + 1) + d) = rc_ T C K c (b + 1) (x * (T.1 + 1) + 0)) → fr_ (ft_ (b + 1)) g g1 → (∀ i, g1 30 i = g 30 i) → nc_ C K.2.2.2 g1 → (∀ c, c < k → g1 28 (6 * (b + 1) + c) = nI (sp_enc (rc_ T C K c (b + 1) (x * (T.1 + 1) + d)))) → mm_W 7 M_Se_step 0 0 (st_Q dy g r T C K b x d) 0 0 (6, [some (.ref 25), some (.ref 1), some (.int (nI b)), some (.int (nI d - 1)), some (.int z), some (.int (nI k)), none, none, none], [], (hp_SH ++ dy, g1, r)) := by
  have h4 := hL.2.1
  obtain ⟨h21, h6, hcs⟩ := hK
  intro m
  induction m with
  | zero =>
    intro k z g1 hk hz hz0 hF h30 hnc hm1
    have hk : k = K.1 := hk
    have e21 : g1 2 1 = nI K.1 := by rw [nr_at (hF.nr ft_nr hP) 2 1 rfl]; exact h21
    refine mm_B ok_Se_step 4 4 (15, [some (.ref 25), some (.ref 1), some (.int (nI b)), some (.int (nI d - 1)), some (.int z), some (.int (nI k)), none, none, none], [.int (g1 2 1), .int (nI k)], (hp_SH ++ dy, g1, r)) [] rfl trivial ?_
    rw [e21]
    refine mm_I ok_Se_step 8 0 15 [some (.ref 25), some (.ref 1), some (.int (nI b)), some (.int (nI d - 1)), some (.int z), some (.int (nI k)), none, none, none] [.int (nI K.1), .int (nI k)] (hp_SH ++ dy, g1, r) [] rfl trivial rfl rfl (fun _ => ?_) (fun q => False.elim (q (nI_le (by omega) (by omega))))
    refine mm_B ok_Se_step 72 1 (132, [some (.ref 25), some (.ref 1), some (.int (nI b)), some (.int (nI d - 1)), some (.int z), some (.int (nI k)), none, none, none], [.int z], (hp_SH ++ dy, g1, r)) [] rfl trivial ?_
    exact mm_rz rfl (mm_at ok_Se_step (i := 73) rfl).1 ⟨Nat.le_refl _, Nat.le_refl _⟩ (hz) (⟨z, rfl, hz, fun h c hc => hz0 h c (by omega), g1, rfl, hF, h30, hnc, fun c hc => hm1 c (by omega)⟩)
  | succ m ih =>
    intro k z g1 hk hz hz0 hF h30 hnc hm1
    have hP1 := hF.nr ft_nr hP
    have hkK : k < K.1 := by omega
    obtain ⟨k1, k2, k3, k4, k5⟩ := hcs k hkK
    have e21 : g1 2 1 = nI K.1 := by rw [nr_at hP1 2 1 rfl]; exact h21
    have e28 : g1 28 (6 * b + k) = nI (sp_enc (rc_ T C K k b x)) := by rw [hF 28 _ (ft_out (by omega) (by omega))]; exact h0 k hkK
    have e6 : g1 6 (nI k).toNatClampNeg = nI (K.2.1 k) := by rw [nI_clamp (by omega), nr_at hP1 6 k rfl]; exact k1
    have e7 : g1 7 (nI k).toNatClampNeg = nI (K.2.2.1 k) := by rw [nI_clamp (by omega), nr_at hP1 7 k rfl]; exact k2
    have hle : ∀ i, i < 4 → (rc_ T C K k b x).1 i ≤ b ∧ (rc_ T C K k b x).2 i ≤ b := fun i hi => rp_le b x i hi
    have hst := rp_st (T := T) (H := sp_H C K.2.2.2 k) (on := K.2.1 k) (off := K.2.2.1 k) (N := T.1 + 1) (b := b) (y := x) (d := d) hd
    have hgo : ∀ (z' : Int32) (t : sp_C) (g2 : Nat → Nat → Int32), (z' = 0 ∨ z' = 1) → (z' = 0 → z = 0 ∧ t = rc_ T C K k b x) → fr_ fk_ g1 g2 → (∀ i, g2 30 i = g1 30 i) → nc_ C K.2.2.2 g2 → rc_ T C K k (b + 1) (x * (T.1 + 1) + d) = t → mm_W 7 M_Se_step 0 0 (st_Q dy g r T C K b x d) 0 0 (6, [some (.ref 25), some (.ref 1), some (.int (nI b)), some (.int (nI d - 1)), some (.int z'), some (.int (nI (k + 1))), none, none, none], [], (hp_SH ++ dy, mm_up g2 28 (6 * (b + 1) + k) (nI (sp_enc t)), r)) := by
      intro z' t g2 hz' hzt hF2 h230 hnc2 ht
      refine ih (k + 1) z' _ (by omega) hz' (fun h0' c hc => ?_) ((hF.tr (hF2.mono ft_fk)).up _ (ft_in (by omega))) (fun i => (h230 i).trans (h30 i)) (nc_fr hnc2 (fun _ => rfl)) (fun c hc => ?_)
      · by_cases e : c = k
        · subst e
          rw [ht, (hzt h0').2, rc_no]
        · exact hz0 (hzt h0').1 c (by omega)
      · by_cases e : c = k
        · subst e
          rw [mm_up_at, ht]
        · rw [mm_up_no (by omega), hF2 28 _ rfl]
          exact hm1 c (by omega)
    have hcsv : rc_ T C K k (b + 1) (x * (T.1 + 1) + d) = if K.2.1 k ≤ b ∧ b ≤ K.2.2.1 k then sp_stp T (sp_H C K.2.2.2 k) b (dg0 d) (rc_ T C K k b x) else rc_ T C K k b x := hst
    generalize rc_ T C K k b x = cs at e28 hle hgo hcsv
    have h108 : ∀ (z' : Int32) (t : sp_C) (g2 : Nat → Nat → Int32) (a : Int32), (z' = 0 ∨ z' = 1) → (z' = 0 → z = 0 ∧ t = cs) → fr_ fk_ g1 g2 → (∀ i, g2 30 i = g1 30 i) → nc_ C K.2.2.2 g2 → rc_ T C K k (b + 1) (x * (T.1 + 1) + d) = t → mm_W 7 M_Se_step 0 0 (st_Q dy g r T C K b x d) 0 0 (108, [some (.ref 25), some (.ref 1), some (.int (nI b)), some (.int (nI d - 1)), some (.int z'), some (.int (nI k)), some (.int (nI (sp_enc cs))), some (.int (nI (sp_enc t))), some (.int a)], [], (hp_SH ++ dy, g2, r)) := by
      intro z' t g2 a hz' hzt hF2 h230 hnc2 ht
      refine mm_B ok_Se_step 59 13 (6, [some (.ref 25), some (.ref 1), some (.int (nI b)), some (.int (nI d - 1)), some (.int z'), some (.int ((nI k) + 1)), some (.int (nI (sp_enc cs))), some (.int (nI (sp_enc t))), some (.int a)], [], (hp_SH ++ dy, mm_up g2 28 (((((nI b) + 1) * 6) + (nI k)).toNatClampNeg) (nI (sp_enc t)), r)) [vp_in ((((nI b) + 1) * 6) + (nI k)) 42] rfl (show vp_in ((((nI b) + 1) * 6) + (nI k)) 42 from (by rw [nI_1, mul6']; exact nI_vi (by omega) (by decide))) ?_
      rw [nI_1 b, mul6', nI_clamp (show 6 * (b + 1) + k < 2 ^ 31 by omega), nI_1]
      refine mm_fg [6, 7, 8] ?_
      exact hgo z' t g2 hz' hzt hF2 h230 hnc2 ht
    have hno : ¬ (K.2.1 k ≤ b ∧ b ≤ K.2.2.1 k) → mm_W 7 M_Se_step 0 0 (st_Q dy g r T C K b x d) 0 0 (68, [some (.ref 25), some (.ref 1), some (.int (nI b)), some (.int (nI d - 1)), some (.int z), some (.int (nI k)), some (.int (nI (sp_enc cs))), some (.int (nI (sp_enc cs))), none], [], (hp_SH ++ dy, g1, r)) := by
      intro hab
      rw [if_neg hab] at hcsv
      refine mm_I ok_Se_step 36 4 73 [some (.ref 25), some (.ref 1), some (.int (nI b)), some (.int (nI d - 1)), some (.int z), some (.int (nI k)), some (.int (nI (sp_enc cs))), some (.int (nI (sp_enc cs))), some (.int 0)] [.int (-1), .int (nI d - 1)] (hp_SH ++ dy, g1, r) [] rfl trivial rfl rfl (fun q0 => ?_) (fun q0 => ?_)
      · exact h108 z cs g1 0 hz (fun h => ⟨h, rfl⟩) fr_.rf (fun _ => rfl) hnc hcsv
      · refine mm_I ok_Se_step 41 1 78 [some (.ref 25), some (.ref 1), some (.int (nI b)), some (.int (nI d - 1)), some (.int z), some (.int (nI k)), some (.int (nI (sp_enc cs))), some (.int (nI (sp_enc cs))), some (.int 0)] [.int 0] (hp_SH ++ dy, g1, r) [] rfl trivial rfl rfl (fun _ => ?_) (fun q => False.elim (q rfl))
        exact h108 z cs g1 0 hz (fun h => ⟨h, rfl⟩) fr_.rf (fun _ => rfl) hnc hcsv
    refine mm_B ok_Se_step 4 4 (15, [some (.ref 25), some (.ref 1), some (.int (nI b)), some (.int (nI d - 1)), some (.int z), some (.int (nI k)), none, none, none], [.int (g1 2 1), .int (nI k)], (hp_SH ++ dy, g1, r)) [] rfl trivial ?_
    rw [e21]
    refine mm_I ok_Se_step 8 0 15 [some (.ref 25), some (.ref 1), some (.int (nI b)), some (.int (nI d - 1)), some (.int z), some (.int (nI k)), none, none, none] [.int (nI K.1), .int (nI k)] (hp_SH ++ dy, g1, r) [] rfl trivial rfl rfl (fun q => False.elim (nI_ge hkK (by omega) q)) (fun _ => ?_)
    refine mm_B ok_Se_step 9 17 (47, [some (.ref 25), some (.ref 1), some (.int (nI b)), some (.int (nI d - 1)), some (.int z), some (.int (nI k)), some (.int (g1 28 ((((nI b) * 6) + (nI k)).toNatClampNeg))), some (.int (g1 28 ((((nI b) * 6) + (nI k)).toNatClampNeg))), none], [.int (g1 6 ((nI k).toNatClampNeg)), .int (nI b)], (hp_SH ++ dy, g1, r)) [vp_in (((nI b) * 6) + (nI k)) 42, vp_in (nI k) 6] rfl (show (vp_in (((nI b) * 6) + (nI k)) 42) ∧ (vp_in (nI k) 6) from ⟨(by rw [mul6']; exact nI_vi (by omega) (by decide)), (nI_vi (by omega) (by decide))⟩) ?_
    rw [mul6', nI_clamp (show 6 * b + k < 2 ^ 31 by omega), e28, e6]
    by_cases ha1 : K.2.1 k ≤ b
    rotate_left
    · refine mm_I ok_Se_step 26 0 47 [some (.ref 25), some (.ref 1), some (.int (nI b)), some (.int (nI d - 1)), some (.int z), some (.int (nI k)), some (.int (nI (sp_enc cs))), some (.int (nI (sp_enc cs))), none] [.int (nI (K.2.1 k)), .int (nI b)] (hp_SH ++ dy, g1, r) [] rfl trivial rfl rfl (fun _ => ?_) (fun q => False.elim (q (nI_lt (by omega) (by omega))))
      exact hno (fun h => ha1 h.1)
    · refine mm_I ok_Se_step 26 0 47 [some (.ref 25), some (.ref 1), some (.int (nI b)), some (.int (nI d - 1)), some (.int z), some (.int (nI k)), some (.int (nI (sp_enc cs))), some (.int (nI (sp_enc cs))), none] [.int (nI (K.2.1 k)), .int (nI b)] (hp_SH ++ dy, g1, r) [] rfl trivial rfl rfl (fun q => False.elim (absurd q (nI_nlt ha1 (by omega)))) (fun _ => ?_)
      refine mm_B ok_Se_step 27 6 (61, [some (.ref 25), some (.ref 1), some (.int (nI b)), some (.int (nI d - 1)), some (.int z), some (.int (nI k)), some (.int (nI (sp_enc cs))), some (.int (nI (sp_enc cs))), none], [.int (g1 7 ((nI k).toNatClampNeg)), .int (nI b)], (hp_SH ++ dy, g1, r)) [vp_in (nI k) 6] rfl (show vp_in (nI k) 6 from (nI_vi (by omega) (by decide))) ?_
      rw [e7]
      by_cases ha2 : b ≤ K.2.2.1 k
      rotate_left
      · refine mm_I ok_Se_step 33 0 61 [some (.ref 25), some (.ref 1), some (.int (nI b)), some (.int (nI d - 1)), some (.int z), some (.int (nI k)), some (.int (nI (sp_enc cs))), some (.int (nI (sp_enc cs))), none] [.int (nI (K.2.2.1 k)), .int (nI b)] (hp_SH ++ dy, g1, r) [] rfl trivial rfl rfl (fun _ => ?_) (fun q => False.elim (q (nI_lt (by omega) (by omega))))
        exact hno (fun h => ha2 h.2)
      · rw [if_pos ⟨ha1, ha2⟩] at hcsv
        refine mm_I ok_Se_step 33 0 61 [some (.ref 25), some (.ref 1), some (.int (nI b)), some (.int (nI d - 1)), some (.int z), some (.int (nI k)), some (.int (nI (sp_enc cs))), some (.int (nI (sp_enc cs))), none] [.int (nI (K.2.2.1 k)), .int (nI b)] (hp_SH ++ dy, g1, r) [] rfl trivial rfl rfl (fun q => False.elim (absurd q (nI_nlt ha2 (by omega)))) (fun _ => ?_)
        refine mm_B ok_Se_step 34 2 (69, [some (.ref 25), some (.ref 1), some (.int (nI b)), some (.int (nI d - 1)), some (.int z), some (.int (nI k)), some (.int (nI (sp_enc cs))), some (.int (nI (sp_enc cs))), none], [.int 1], (hp_SH ++ dy, g1, r)) [] rfl trivial ?_
        cases d with
        | zero =>
          refine mm_I ok_Se_step 37 3 73 [some (.ref 25), some (.ref 1), some (.int (nI b)), some (.int (nI 0 - 1)), some (.int z), some (.int (nI k)), some (.int (nI (sp_enc cs))), some (.int (nI (sp_enc cs))), some (.int 1)] [.int (-1), .int (nI 0 - 1)] (hp_SH ++ dy, g1, r) [] rfl trivial rfl rfl (fun _ => ?_) (fun q => False.elim (q (by decide)))
          exact h108 z cs g1 1 hz (fun h => ⟨h, rfl⟩) fr_.rf (fun _ => rfl) hnc hcsv
        | succ l =>
          refine mm_I ok_Se_step 37 3 73 [some (.ref 25), some (.ref 1), some (.int (nI b)), some (.int (nI (l + 1) - 1)), some (.int z), some (.int (nI k)), some (.int (nI (sp_enc cs))), some (.int (nI (sp_enc cs))), some (.int 1)] [.int (-1), .int (nI (l + 1) - 1)] (hp_SH ++ dy, g1, r) [] rfl trivial rfl rfl (fun q => False.elim (absurd ((m1_eq (l + 1) (by omega)).mp q) (by omega))) (fun _ => ?_)
          rw [nI_pred] at h108 ⊢
          refine mm_I ok_Se_step 41 1 78 [some (.ref 25), some (.ref 1), some (.int (nI b)), some (.int (nI l)), some (.int z), some (.int (nI k)), some (.int (nI (sp_enc cs))), some (.int (nI (sp_enc cs))), some (.int 1)] [.int 1] (hp_SH ++ dy, g1, r) [] rfl trivial rfl rfl (fun q => False.elim (absurd q (by decide))) (fun _ => ?_)
          refine mm_B ok_Se_step 43 6 (89, [some (.ref 25), some (.ref 1), some (.int (nI b)), some (.int (nI l)), some (.int z), some (.int (nI k)), some (.int (nI (sp_enc cs))), some (.int (nI (sp_enc cs))), some (.int 1)], [.int (nI (sp_enc cs)), .int (nI l), .int (nI b), .int (nI k), .ref 1, .ref 25], (hp_SH ++ dy, g1, r)) [] rfl trivial ?_
          refine mm_cV (as := [.ref 1, .int (nI k), .int (nI b), .int (nI l), .int (nI (sp_enc cs))]) (st := []) (q := 25) cw_Se_listens lk_Se_73 in_Se_listens sl_Se_listens rfl rfl (mm_at ok_Se_step (i := 49) rfl).1 (ct_Se_listens dy g1 P r hP1 hR hL (ag := K.2.2.2) (b := b) (c := k) (l := l) (cs := cs) hnc hb (by omega) (by omega) k5 hle) (by decide) ⟨by omega, by omega⟩ (Nat.le_of_ble_eq_true rfl) (mm_vs_b (b := 77) rfl (hp_len dy)) (fun v h' hqq => ?_)
          obtain ⟨rfl, g2, hqe, hF2, h230, hnc2⟩ := hqq; rw [hqe]
          by_cases hH : sp_H C K.2.2.2 k b l (sp_pc (sp_has T cs.2 b)) (cs.1 l) = true
          · rw [if_pos hH]
            refine mm_I ok_Se_step 50 0 92 [some (.ref 25), some (.ref 1), some (.int (nI b)), some (.int (nI l)), some (.int z), some (.int (nI k)), some (.int (nI (sp_enc cs))), some (.int (nI (sp_enc cs))), some (.int 1)] [.int 1] (hp_SH ++ dy, g2, r) [] rfl trivial rfl rfl (fun q => False.elim (absurd q (by decide))) (fun _ => ?_)
            refine mm_B ok_Se_step 51 4 (100, [some (.ref 25), some (.ref 1), some (.int (nI b)), some (.int (nI l)), some (.int z), some (.int (nI k)), some (.int (nI (sp_enc cs))), some (.int (nI (sp_enc cs))), some (.int 1)], [.int (nI l), .int (nI b), .int (nI (sp_enc cs)), .ref 1], (hp_SH ++ dy, g2, r)) [] rfl trivial ?_
            have hP2 : nr_ g2 = P := hF2.nr fk_nr hP1
            refine mm_cV (as := [.int (nI (sp_enc cs)), .int (nI b), .int (nI l)]) (st := []) (q := 1) cw_Sp_listened lk_Se_77 in_Sp_listened sl_Sp_listened rfl rfl (mm_at ok_Se_step (i := 55) rfl).1 (ct_Sp_listened dy g2 P r hP2 hL hb hle (l := l) (by omega)) (by decide) ⟨by omega, by omega⟩ (Nat.le_of_ble_eq_true rfl) (mm_vs_b (b := 77) rfl (hp_len dy)) (fun v h' hqq => ?_)
            obtain ⟨rfl, hqe⟩ := hqq; rw [hqe]
            refine mm_B ok_Se_step 56 3 (108, [some (.ref 25), some (.ref 1), some (.int (nI b)), some (.int (nI l)), some (.int 1), some (.int (nI k)), some (.int (nI (sp_enc cs))), some (.int (nI (sp_enc (sp_lis T cs b l)))), some (.int 1)], [], (hp_SH ++ dy, g2, r)) [] rfl trivial ?_
            exact h108 1 (sp_lis T cs b l) g2 1 (Or.inr rfl) (fun h => absurd h (by decide)) hF2 h230 hnc2 (by rw [hcsv]; show sp_stp T _ b (some l) cs = _; unfold sp_stp; exact if_pos hH)
          · rw [if_neg hH]
            refine mm_I ok_Se_step 50 0 92 [some (.ref 25), some (.ref 1), some (.int (nI b)), some (.int (nI l)), some (.int z), some (.int (nI k)), some (.int (nI (sp_enc cs))), some (.int (nI (sp_enc cs))), some (.int 1)] [.int 0] (hp_SH ++ dy, g2, r) [] rfl trivial rfl rfl (fun _ => ?_) (fun q => False.elim (q rfl))
            exact h108 z cs g2 1 hz (fun h => ⟨h, rfl⟩) hF2 h230 hnc2 (by rw [hcsv]; show sp_stp T _ b (some l) cs = _; unfold sp_stp; exact if_neg hH)
theorem ct_Se_step (dy : List mm_Sh) (g P : Nat → Nat → Int32) (r : (Nat → Nat → Int64) × Nat × (Nat → Int32)) (hP : nr_ g = P) {C : Nat → List Int32} (hR : rt_R dy P C) {T : sp_T} (hL : rl_L T P) {K : sp_K} (hK : rl_C K P) {b x d : Nat} (hb : b < 6) (hd : d < T.1 + 1) (hnc : nc_ C K.2.2.2 g) (h0 : mr_ T C K g b x) : mm_Ct 7 M_Se_step [.ref 25, .ref 1, .int (nI b), .int (nI d - 1)] (hp_SH ++ dy, g, r) 0 0 (st_Q dy g r T C K b x d) := by
  refine mm_start pl_Se (Nat.le_of_ble_eq_true rfl) ?_
  refine mm_B ok_Se_step 0 4 (6, [some (.ref 25), some (.ref 1), some (.int (nI b)), some (.int (nI d - 1)), some (.int 0), some (.int 0), none, none, none], [], (hp_SH ++ dy, g, r)) [] rfl trivial ?_
  exact sp_go dy g P r hP hR hL hK hb hd h0 K.1 0 0 g (Nat.zero_add _) (Or.inl rfl) (fun _ c hc => absurd hc (Nat.not_lt_zero c)) fr_.rf (fun _ => rfl) hnc (fun c hc => absurd hc (Nat.not_lt_zero c))

