/-! ===== Search: weigh, visit, find ===== -/
def fv_ (k j : Nat) : Bool := fk_ k j || (k == 27 || k == 28 || k == 26 || (k == 25 && j == 1))
theorem fv_fk : ∀ k j, fv_ k j = false → fk_ k j = false := fun k j h => (Bool.or_eq_false_iff.mp h).1
theorem fv_ft {b : Nat} : ∀ k j, fv_ k j = false → ft_ b k j = false := by
  intro k j h
  have h1 := Bool.or_eq_false_iff.mp h
  have h28 : (k == 28) = false := (Bool.or_eq_false_iff.mp (Bool.or_eq_false_iff.mp (Bool.or_eq_false_iff.mp h1.2).1).1).2
  unfold ft_
  rw [h1.1, h28]
  rfl
/-- what the search needs of the cells, whatever the search itself keeps -/
def SB_ (dy : List mm_Sh) (P : Nat → Nat → Int32) (T : sp_T) (C : Nat → List Int32) (K : sp_K) : Prop := ∀ P' : Nat → Nat → Int32, (∀ k j, k ≠ 25 → k ≠ 26 → P' k j = P k j) → rl_L T P' ∧ rt_R dy P' C ∧ rl_C K P'
theorem SB_self {dy : List mm_Sh} {P : Nat → Nat → Int32} {T : sp_T} {C : Nat → List Int32} {K : sp_K} (h : SB_ dy P T C K) : rl_L T P ∧ rt_R dy P C ∧ rl_C K P := h P (fun _ _ _ _ => rfl)
theorem SB_fr {dy : List mm_Sh} {g g' : Nat → Nat → Int32} {T : sp_T} {C : Nat → List Int32} {K : sp_K} (h : SB_ dy (nr_ g) T C K) (hF : fr_ fv_ g g') : SB_ dy (nr_ g') T C K := by
  intro P' hP'
  refine h P' (fun k j h25 h26 => ?_)
  rw [hP' k j h25 h26]
  cases hs : nr_s k j with
  | true => simp [nr_, hs]
  | false =>
    rw [nr_eq g' hs, nr_eq g hs]
    refine hF k j ?_
    unfold fv_
    rw [fk_nr k j hs, beq_false_of_ne h25, beq_false_of_ne h26]
    cases h27 : k == 27 with
    | true => rw [show k = 27 by simpa using h27] at hs; cases hs
    | false =>
      cases h28 : k == 28 with
      | true => rw [show k = 28 by simpa using h28] at hs; cases hs
      | false => rfl
def sr_ (T : sp_T) (g : Nat → Nat → Int32) (st : Nat × Nat) : Prop := g 25 1 = nI st.1 - 1 ∧ st.1 < 10000 ∧ (st.1 ≠ 0 → ∀ b, b < 6 → g 26 b = pl_c (dec_ (T.1 + 1) st.2 b))
def vs_Q (dy : List mm_Sh) (g : Nat → Nat → Int32) (r : (Nat → Nat → Int64) × Nat × (Nat → Int32)) (T : sp_T) (C : Nat → List Int32) (K : sp_K) (b : Nat) (st : Nat × Nat) : Option Value → mm_Hp → Prop := fun v h' => v = none ∧ ∃ g', h' = (hp_SH ++ dy, g', r) ∧ fr_ fv_ g g' ∧ (∀ j, j < 6 * (b + 1) → g' 28 j = g 28 j) ∧ (∀ j, j < b → g' 27 j = g 27 j) ∧ nc_ C K.2.2.2 g' ∧ ng_ T C K.2.2.2 g' ∧ sr_ T g' st
theorem w1_le {w s : Nat} (hw : w < 10000) (hs : s < 10000) : (nI w ≤ nI s - 1 ↔ w + 1 ≤ s) := by
  cases s with
  | zero =>
    refine ⟨fun h => ?_, fun h => by omega⟩
    exact absurd (Int32.le_trans (nI_pos' (n := w) (by omega)) h) (by decide)
  | succ s =>
    rw [nI_pred, nI_leI (by omega) (by omega)]
    omega
theorem enc_0 {cs : sp_C} (h : sp_enc cs = 0) : ∀ l, l < 4 → cs.2 l = 0 := by
  unfold sp_enc at h
  intro l hl
  have : l = 0 ∨ l = 1 ∨ l = 2 ∨ l = 3 := by omega
  rcases this with rfl | rfl | rfl | rfl <;> omega
theorem bits_0 {T : sp_T} {t : Nat → Nat} {b : Nat} : ∀ n, (∀ l, l < n → t l = 0) → sp_bits T t b n = 0
  | 0, _ => rfl
  | n + 1, h => by
    simp only [sp_bits]
    rw [bits_0 n (fun l hl => h l (by omega)), if_neg (by unfold sp_hs; rw [h n (by omega)]; simp)]
theorem wg_fr {g g1 g2 : Nat → Nat → Int32} {v : Int32} {k j : Nat} (hcp : ∀ a j, a ≠ 26 → g2 a j = mm_up g1 25 1 v a j) (hf : fr_ fv_ g g1) (h : fv_ k j = false) : g2 k j = g k j := by
  have h1 := (Bool.or_eq_false_iff.mp h).2
  have h2 := Bool.or_eq_false_iff.mp h1
  have h26 : k ≠ 26 := by
    have := (Bool.or_eq_false_iff.mp h2.1).2
    simpa using this
  rw [hcp k j h26]
  have h25 : (k == 25 && j == 1) = false := h2.2
  simp only [mm_up]
  rw [h25]
  exact hf k j h
theorem wg_tl (dy : List mm_Sh) (g : Nat → Nat → Int32) (r : (Nat → Nat → Int64) × Nat × (Nat → Int32)) {T : sp_T} {C : Nat → List Int32} {K : sp_K} {x : Nat} {st : Nat × Nat} (hW : wt6 T C K (T.1 + 1) x < 9999) (v3 : Int32) : ∀ (g1 : Nat → Nat → Int32), fr_ fk_ g g1 → nc_ C K.2.2.2 g1 → ng_ T C K.2.2.2 g1 → sr_ T g1 st → (∀ j, j < 6 → g1 27 j = pl_c (dec_ (T.1 + 1) x j)) → mm_W 6 M_Se_weigh 0 0 (vs_Q dy g r T C K 6 (bu_ (wt6 T C K (T.1 + 1)) st x)) 0 0 (158, [some (.ref 25), some (.ref 1), some (.int (nI (wt6 T C K (T.1 + 1) x))), some (.int v3), none, none, none, none, none, none], [], (hp_SH ++ dy, g1, r)) := by
  intro g1 hF hnc hng hsr htr
  obtain ⟨s1, s2, s3⟩ := hsr
  have hf : fr_ fv_ g g1 := hF.mono fv_fk
  refine mm_B ok_Se_weigh 87 3 (163, [some (.ref 25), some (.ref 1), some (.int (nI (wt6 T C K (T.1 + 1) x))), some (.int v3), none, none, none, none, none, none], [.int (g1 25 1), .int (nI (wt6 T C K (T.1 + 1) x))], (hp_SH ++ dy, g1, r)) [] rfl trivial ?_
  rw [s1]
  by_cases hc : wt6 T C K (T.1 + 1) x + 1 ≤ st.1
  · have e9 : bu_ (wt6 T C K (T.1 + 1)) st x = st := by unfold bu_; rw [if_neg (by omega)]
    rw [e9]
    refine mm_I ok_Se_weigh 90 0 163 [some (.ref 25), some (.ref 1), some (.int (nI (wt6 T C K (T.1 + 1) x))), some (.int v3), none, none, none, none, none, none] [.int (nI st.1 - 1), .int (nI (wt6 T C K (T.1 + 1) x))] (hp_SH ++ dy, g1, r) [] rfl trivial rfl rfl (fun _ => ?_) (fun q => False.elim (q ((w1_le (by omega) s2).mpr hc)))
    exact mm_r0 rfl (mm_at ok_Se_weigh (i := 102) rfl).1 ⟨Nat.le_refl _, Nat.le_refl _⟩ (⟨rfl, g1, rfl, hf, fun j _ => hF 28 j rfl, fun j _ => hF 27 j rfl, hnc, hng, s1, s2, s3⟩)
  · have e9 : bu_ (wt6 T C K (T.1 + 1)) st x = (wt6 T C K (T.1 + 1) x + 1, x) := by unfold bu_; rw [if_pos (by omega)]
    rw [e9]
    refine mm_I ok_Se_weigh 90 0 163 [some (.ref 25), some (.ref 1), some (.int (nI (wt6 T C K (T.1 + 1) x))), some (.int v3), none, none, none, none, none, none] [.int (nI st.1 - 1), .int (nI (wt6 T C K (T.1 + 1) x))] (hp_SH ++ dy, g1, r) [] rfl trivial rfl rfl (fun q => False.elim (hc ((w1_le (by omega) s2).mp q))) (fun _ => ?_)
    refine mm_B ok_Se_weigh 91 10 (183, [some (.ref 25), some (.ref 1), some (.int (nI (wt6 T C K (T.1 + 1) x))), some (.int v3), none, none, none, none, none, none], [.int 6, .int 0, .ref 26, .int 0, .ref 27], (hp_SH ++ dy, mm_up g1 25 1 (nI (wt6 T C K (T.1 + 1) x)), r)) [] rfl trivial ?_
    refine mm_acopy (k0 := 27) (k1 := 26) (n0 := 6) (n1 := 6) lk_Se_102 nt_copy sx_copy ii_System ((hp_at dy (by decide)).trans rfl) ((hp_at dy (by decide)).trans rfl) (by decide) (by decide) (by decide) (by decide) (by decide) (by decide) (Nat.le_of_ble_eq_true rfl) (mm_at ok_Se_weigh (i := 101) rfl).1 ?_
    have hcp : ∀ a j, a ≠ 26 → mm_cp (mm_up g1 25 1 (nI (wt6 T C K (T.1 + 1) x))) 27 26 (Int32.toNatClampNeg 0) (Int32.toNatClampNeg 0) (Int32.toNatClampNeg 6) a j = mm_up g1 25 1 (nI (wt6 T C K (T.1 + 1) x)) a j := fun a j ha => by simp [mm_cp, beq_false_of_ne ha]
    have hcp2 : ∀ j, j < 6 → mm_cp (mm_up g1 25 1 (nI (wt6 T C K (T.1 + 1) x))) 27 26 (Int32.toNatClampNeg 0) (Int32.toNatClampNeg 0) (Int32.toNatClampNeg 6) 26 j = g1 27 j := fun j hj => by
      show (bif (26 == 26) then va_cpy (mm_up g1 25 1 _ 27) (mm_up g1 25 1 _ 26) 0 0 6 j else _) = _
      simp [va_cpy, hj, mm_up]
    exact mm_r0 rfl (mm_at ok_Se_weigh (i := 102) rfl).1 ⟨Nat.le_refl _, Nat.le_refl _⟩ (⟨rfl, _, rfl, fun k j h => wg_fr hcp hf h, fun j _ => (hcp 28 j (by decide)).trans (hF 28 j rfl), fun j _ => (hcp 27 j (by decide)).trans (hF 27 j rfl), nc_fr hnc (fun i => hcp 29 i (by decide)), ng_fr hng (fun i => hcp 30 i (by decide)), by rw [hcp 25 1 (by decide)]; exact (mm_up_at g1 25 1 _).trans (nI_pred _).symm, by show _ + 1 < _; omega, fun _ b hb => (hcp2 b hb).trans (htr b hb)⟩)
theorem wg_in (dy : List mm_Sh) (g P : Nat → Nat → Int32) (r : (Nat → Nat → Int64) × Nat × (Nat → Int32)) (hP : nr_ g = P) {C : Nat → List Int32} (hR : rt_R dy P C) {T : sp_T} (hL : rl_L T P) {K : sp_K} (hK : rl_C K P) {x k : Nat} {cs : sp_C} (hcs : cs = rc_ T C K k 6 x) (hk : k < K.1) {st : Nat × Nat} {Q : Option Value → mm_Hp → Prop} (hnext : ∀ g2 : Nat → Nat → Int32, fr_ fk_ g g2 → nc_ C K.2.2.2 g2 → ng_ T C K.2.2.2 g2 → mm_W 6 M_Se_weigh 0 0 Q 0 0 (4, [some (.ref 25), some (.ref 1), some (.int (nI (sp_sum (pt6 T C K (T.1 + 1) x) (k + 1)))), some (.int (nI (k + 1))), none, none, none, none, none, none], [], (hp_SH ++ dy, g2, r))) : ∀ (m l : Nat) (g1 : Nat → Nat → Int32), l + m = T.1 → fr_ fk_ g g1 → nc_ C K.2.2.2 g1 → ng_ T C K.2.2.2 g1 → mm_W 6 M_Se_weigh 0 0 Q 0 0 (54, [some (.ref 25), some (.ref 1), some (.int (nI (sp_sum (pt6 T C K (T.1 + 1) x) k + sp_sum (sp_pt T (sp_W C K.2.2.2 k) cs) l))), some (.int (nI k)), some (.int (nI (sp_enc cs))), some (.int (nI (sp_has T cs.2 5))), some (.int (nI (sp_pc (sp_has T cs.2 5)))), some (.int (nI l)), none, none], [], (hp_SH ++ dy, g1, r)) := by
  have h4 := hL.2.1
  have h6 := hK.2.1
  have k5 := (hK.2.2 k hk).2.2.2.2
  have hle : ∀ i, i < 4 → cs.1 i ≤ 6 ∧ cs.2 i ≤ 6 := fun i hi => by rw [hcs]; exact rp_le 6 x i hi
  have hok : sp_ok cs := fun i hi => by have := hle i hi; omega
  have hh := sp_has_lt T cs.2 5 h4
  have hk5 := sp_pc_lt _ hh
  intro m
  induction m with
  | zero =>
    intro l g1 hl hF hnc hng
    have hl : l = T.1 := hl
    have e20 : g1 2 0 = nI T.1 := by rw [nr_at (hF.nr fk_nr hP) 2 0 rfl]; exact hL.1
    refine mm_B ok_Se_weigh 30 4 (63, [some (.ref 25), some (.ref 1), some (.int (nI (sp_sum (pt6 T C K (T.1 + 1) x) k + sp_sum (sp_pt T (sp_W C K.2.2.2 k) cs) l))), some (.int (nI k)), some (.int (nI (sp_enc cs))), some (.int (nI (sp_has T cs.2 5))), some (.int (nI (sp_pc (sp_has T cs.2 5)))), some (.int (nI l)), none, none], [.int (g1 2 0), .int (nI l)], (hp_SH ++ dy, g1, r)) [] rfl trivial ?_
    rw [e20]
    refine mm_I ok_Se_weigh 34 0 63 [some (.ref 25), some (.ref 1), some (.int (nI (sp_sum (pt6 T C K (T.1 + 1) x) k + sp_sum (sp_pt T (sp_W C K.2.2.2 k) cs) l))), some (.int (nI k)), some (.int (nI (sp_enc cs))), some (.int (nI (sp_has T cs.2 5))), some (.int (nI (sp_pc (sp_has T cs.2 5)))), some (.int (nI l)), none, none] [.int (nI T.1), .int (nI l)] (hp_SH ++ dy, g1, r) [] rfl trivial rfl rfl (fun _ => ?_) (fun q => False.elim (q (nI_le (by omega) (by omega))))
    refine mm_B ok_Se_weigh 85 2 (4, [some (.ref 25), some (.ref 1), some (.int (nI (sp_sum (pt6 T C K (T.1 + 1) x) k + sp_sum (sp_pt T (sp_W C K.2.2.2 k) cs) l))), some (.int ((nI k) + 1)), some (.int (nI (sp_enc cs))), some (.int (nI (sp_has T cs.2 5))), some (.int (nI (sp_pc (sp_has T cs.2 5)))), some (.int (nI l)), none, none], [], (hp_SH ++ dy, g1, r)) [] rfl trivial ?_
    rw [nI_1]
    refine mm_fg [4, 5, 6, 7] ?_
    have h8 := hnext g1 hF hnc hng
    have e9 : sp_sum (pt6 T C K (T.1 + 1) x) (k + 1) = sp_sum (pt6 T C K (T.1 + 1) x) k + sp_sum (sp_pt T (sp_W C K.2.2.2 k) cs) l := by
      show _ + pt6 T C K (T.1 + 1) x k = _
      rw [hl, hcs]
      rfl
    rw [e9] at h8
    exact h8
  | succ m ih =>
    intro l g1 hl hF hnc hng
    have hlT : l < T.1 := by omega
    have hP1 := hF.nr fk_nr hP
    have e20 : g1 2 0 = nI T.1 := by rw [nr_at hP1 2 0 rfl]; exact hL.1
    have ho7 : cs.1 l < 7 := by have := hle l (by omega); omega
    refine mm_B ok_Se_weigh 30 4 (63, [some (.ref 25), some (.ref 1), some (.int (nI (sp_sum (pt6 T C K (T.1 + 1) x) k + sp_sum (sp_pt T (sp_W C K.2.2.2 k) cs) l))), some (.int (nI k)), some (.int (nI (sp_enc cs))), some (.int (nI (sp_has T cs.2 5))), some (.int (nI (sp_pc (sp_has T cs.2 5)))), some (.int (nI l)), none, none], [.int (g1 2 0), .int (nI l)], (hp_SH ++ dy, g1, r)) [] rfl trivial ?_
    rw [e20]
    refine mm_I ok_Se_weigh 34 0 63 [some (.ref 25), some (.ref 1), some (.int (nI (sp_sum (pt6 T C K (T.1 + 1) x) k + sp_sum (sp_pt T (sp_W C K.2.2.2 k) cs) l))), some (.int (nI k)), some (.int (nI (sp_enc cs))), some (.int (nI (sp_has T cs.2 5))), some (.int (nI (sp_pc (sp_has T cs.2 5)))), some (.int (nI l)), none, none] [.int (nI T.1), .int (nI l)] (hp_SH ++ dy, g1, r) [] rfl trivial rfl rfl (fun q => False.elim (nI_ge hlT (by omega) q)) (fun _ => ?_)
    refine mm_B ok_Se_weigh 35 5 (73, [some (.ref 25), some (.ref 1), some (.int (nI (sp_sum (pt6 T C K (T.1 + 1) x) k + sp_sum (sp_pt T (sp_W C K.2.2.2 k) cs) l))), some (.int (nI k)), some (.int (nI (sp_enc cs))), some (.int (nI (sp_has T cs.2 5))), some (.int (nI (sp_pc (sp_has T cs.2 5)))), some (.int (nI l)), none, none], [.int (((nI (sp_has T cs.2 5)) >>> ((nI l) &&& 31)) &&& 1)], (hp_SH ++ dy, g1, r)) [] rfl trivial ?_
    rw [bt_tst _ hh _ (show l < 4 by omega)]
    by_cases hz : sp_has T cs.2 5 / 2 ^ l % 2 = 0
    · refine mm_I ok_Se_weigh 40 0 73 [some (.ref 25), some (.ref 1), some (.int (nI (sp_sum (pt6 T C K (T.1 + 1) x) k + sp_sum (sp_pt T (sp_W C K.2.2.2 k) cs) l))), some (.int (nI k)), some (.int (nI (sp_enc cs))), some (.int (nI (sp_has T cs.2 5))), some (.int (nI (sp_pc (sp_has T cs.2 5)))), some (.int (nI l)), none, none] [.int (nI (sp_has T cs.2 5 / 2 ^ l % 2))] (hp_SH ++ dy, g1, r) [] rfl trivial rfl rfl (fun q => False.elim (q (by rw [hz]; rfl))) (fun _ => ?_)
      refine mm_B ok_Se_weigh 41 1 (146, [some (.ref 25), some (.ref 1), some (.int (nI (sp_sum (pt6 T C K (T.1 + 1) x) k + sp_sum (sp_pt T (sp_W C K.2.2.2 k) cs) l))), some (.int (nI k)), some (.int (nI (sp_enc cs))), some (.int (nI (sp_has T cs.2 5))), some (.int (nI (sp_pc (sp_has T cs.2 5)))), some (.int (nI l)), none, none], [], (hp_SH ++ dy, g1, r)) [] rfl trivial ?_
      refine mm_B ok_Se_weigh 83 2 (54, [some (.ref 25), some (.ref 1), some (.int (nI (sp_sum (pt6 T C K (T.1 + 1) x) k + sp_sum (sp_pt T (sp_W C K.2.2.2 k) cs) l))), some (.int (nI k)), some (.int (nI (sp_enc cs))), some (.int (nI (sp_has T cs.2 5))), some (.int (nI (sp_pc (sp_has T cs.2 5)))), some (.int ((nI l) + 1)), none, none], [], (hp_SH ++ dy, g1, r)) [] rfl trivial ?_
      rw [nI_1]
      have h8 := ih (l + 1) g1 (by omega) hF hnc hng
      have e9 : sp_sum (sp_pt T (sp_W C K.2.2.2 k) cs) (l + 1) = sp_sum (sp_pt T (sp_W C K.2.2.2 k) cs) l := by simp only [sp_sum, sp_pt]; rw [if_pos hz]; omega
      rw [e9] at h8
      exact h8
    · have hv := vg_at (T := T) (C := C) (ag := K.2.2.2) (c := k) (l := l) (k := sp_pc (sp_has T cs.2 5)) (o := cs.1 l) (by omega) hk5 ho7
      have hi : ((k * 4 + l) * 5 + sp_pc (sp_has T cs.2 5)) * 7 + cs.1 l < 840 := by omega
      have e9 : sp_sum (sp_pt T (sp_W C K.2.2.2 k) cs) (l + 1) = sp_sum (sp_pt T (sp_W C K.2.2.2 k) cs) l + sp_gn (sp_value T l) (sp_W C K.2.2.2 k l (sp_pc (sp_has T cs.2 5)) (cs.1 l)) := by simp only [sp_sum]; rw [show sp_pt T (sp_W C K.2.2.2 k) cs l = _ from if_neg hz]
      have h8 := fun g2 h1 h2 h3 => ih (l + 1) g2 (by omega) h1 h2 h3
      rw [e9, ← Nat.add_assoc] at h8
      refine mm_I ok_Se_weigh 40 0 73 [some (.ref 25), some (.ref 1), some (.int (nI (sp_sum (pt6 T C K (T.1 + 1) x) k + sp_sum (sp_pt T (sp_W C K.2.2.2 k) cs) l))), some (.int (nI k)), some (.int (nI (sp_enc cs))), some (.int (nI (sp_has T cs.2 5))), some (.int (nI (sp_pc (sp_has T cs.2 5)))), some (.int (nI l)), none, none] [.int (nI (sp_has T cs.2 5 / 2 ^ l % 2))] (hp_SH ++ dy, g1, r) [] rfl trivial rfl rfl (fun _ => ?_) (fun q => False.elim (absurd q (nI_ne0 (by omega) (by omega))))
      refine mm_B ok_Se_weigh 42 2 (83, [some (.ref 25), some (.ref 1), some (.int (nI (sp_sum (pt6 T C K (T.1 + 1) x) k + sp_sum (sp_pt T (sp_W C K.2.2.2 k) cs) l))), some (.int (nI k)), some (.int (nI (sp_enc cs))), some (.int (nI (sp_has T cs.2 5))), some (.int (nI (sp_pc (sp_has T cs.2 5)))), some (.int (nI l)), none, none], [.int (nI l), .int (nI (sp_enc cs))], (hp_SH ++ dy, g1, r)) [] rfl trivial ?_
      refine mm_cS (as := [.int (nI (sp_enc cs)), .int (nI l)]) (st := []) cw_Sp_timesHeard lk_Se_91 sx_Sp_timesHeard (mm_at ok_Se_weigh (i := 44) rfl).1 (ct_Sp_timesHeard (hp_SH ++ dy, g1, r) (nI (sp_enc cs)) (nI l)) (by decide) ⟨by omega, by omega⟩ (Nat.le_of_ble_eq_true rfl) (mm_vs_b (b := 77) rfl (hp_len dy)) (fun v h' hqq => ?_)
      obtain ⟨rfl, hqe⟩ := hqq; rw [hqe, me_times hok (by omega)]
      refine mm_B ok_Se_weigh 45 15 (107, [some (.ref 25), some (.ref 1), some (.int (nI (sp_sum (pt6 T C K (T.1 + 1) x) k + sp_sum (sp_pt T (sp_W C K.2.2.2 k) cs) l))), some (.int (nI k)), some (.int (nI (sp_enc cs))), some (.int (nI (sp_has T cs.2 5))), some (.int (nI (sp_pc (sp_has T cs.2 5)))), some (.int (nI l)), some (.int (nI (cs.1 l))), some (.int (((((((nI k) * 4) + (nI l)) * 5) + (nI (sp_pc (sp_has T cs.2 5)))) * 7) + (nI (cs.1 l))))], [], (hp_SH ++ dy, g1, r)) [] rfl trivial ?_
      rw [ix_nW]
      generalize ((k * 4 + l) * 5 + sp_pc (sp_has T cs.2 5)) * 7 + cs.1 l = i at hv hi ⊢
      refine mm_B ok_Se_weigh 60 5 (115, [some (.ref 25), some (.ref 1), some (.int (nI (sp_sum (pt6 T C K (T.1 + 1) x) k + sp_sum (sp_pt T (sp_W C K.2.2.2 k) cs) l))), some (.int (nI k)), some (.int (nI (sp_enc cs))), some (.int (nI (sp_has T cs.2 5))), some (.int (nI (sp_pc (sp_has T cs.2 5)))), some (.int (nI l)), some (.int (nI (cs.1 l))), some (.int (nI i))], [.int (-1), .int (g1 30 ((nI i).toNatClampNeg))], (hp_SH ++ dy, g1, r)) [vp_in (nI i) 840] rfl (show vp_in (nI i) 840 from (nI_vi hi (by decide))) ?_
      rw [nI_clamp (show i < 2 ^ 31 by omega)]
      by_cases hm : g1 30 i = -1
      · refine mm_I ok_Se_weigh 65 0 115 [some (.ref 25), some (.ref 1), some (.int (nI (sp_sum (pt6 T C K (T.1 + 1) x) k + sp_sum (sp_pt T (sp_W C K.2.2.2 k) cs) l))), some (.int (nI k)), some (.int (nI (sp_enc cs))), some (.int (nI (sp_has T cs.2 5))), some (.int (nI (sp_pc (sp_has T cs.2 5)))), some (.int (nI l)), some (.int (nI (cs.1 l))), some (.int (nI i))] [.int (-1), .int (g1 30 i)] (hp_SH ++ dy, g1, r) [] rfl trivial rfl rfl (fun q => False.elim (absurd hm q)) (fun _ => ?_)
        refine mm_B ok_Se_weigh 66 8 (132, [some (.ref 25), some (.ref 1), some (.int (nI (sp_sum (pt6 T C K (T.1 + 1) x) k + sp_sum (sp_pt T (sp_W C K.2.2.2 k) cs) l))), some (.int (nI k)), some (.int (nI (sp_enc cs))), some (.int (nI (sp_has T cs.2 5))), some (.int (nI (sp_pc (sp_has T cs.2 5)))), some (.int (nI l)), some (.int (nI (cs.1 l))), some (.int (nI i))], [.int (nI (cs.1 l)), .int (nI (sp_pc (sp_has T cs.2 5))), .int (nI l), .int (nI k), .ref 1, .int (nI i), .ref 30], (hp_SH ++ dy, g1, r)) [] rfl trivial ?_
        refine mm_cV (as := [.int (nI k), .int (nI l), .int (nI (sp_pc (sp_has T cs.2 5))), .int (nI (cs.1 l))]) (st := [.int (nI i), .ref 30]) (q := 1) cw_Sp_gain lk_Se_98 in_Sp_gain sl_Sp_gain rfl rfl (mm_at ok_Se_weigh (i := 74) rfl).1 (ct_Sp_gain dy g1 P r hP1 hR (ag := K.2.2.2) (c := k) (l := l) (k := sp_pc (sp_has T cs.2 5)) (o := cs.1 l) hL (by omega) k5 hlT) (by decide) ⟨by omega, by omega⟩ (Nat.le_of_ble_eq_true rfl) (mm_vs_b (b := 77) rfl (hp_len dy)) (fun v h' hqq => ?_)
        obtain ⟨rfl, g2, hqe, hF2⟩ := hqq; rw [hqe]
        refine mm_B ok_Se_weigh 75 10 (54, [some (.ref 25), some (.ref 1), some (.int ((nI (sp_sum (pt6 T C K (T.1 + 1) x) k + sp_sum (sp_pt T (sp_W C K.2.2.2 k) cs) l)) + ((mm_up g2 30 ((nI i).toNatClampNeg) (nI (sp_gn (sp_value T l) (sp_W C K.2.2.2 k l (sp_pc (sp_has T cs.2 5)) (cs.1 l))))) 30 ((nI i).toNatClampNeg)))), some (.int (nI k)), some (.int (nI (sp_enc cs))), some (.int (nI (sp_has T cs.2 5))), some (.int (nI (sp_pc (sp_has T cs.2 5)))), some (.int ((nI l) + 1)), some (.int (nI (cs.1 l))), some (.int (nI i))], [], (hp_SH ++ dy, mm_up g2 30 ((nI i).toNatClampNeg) (nI (sp_gn (sp_value T l) (sp_W C K.2.2.2 k l (sp_pc (sp_has T cs.2 5)) (cs.1 l)))), r)) [vp_in (nI i) 840, vp_in (nI i) 840] rfl (show (vp_in (nI i) 840) ∧ (vp_in (nI i) 840) from ⟨(nI_vi hi (by decide)), (nI_vi hi (by decide))⟩) ?_
        rw [nI_clamp (show i < 2 ^ 31 by omega), mm_up_at, nI_add, nI_1]
        refine mm_fg [8, 9] ?_
        exact h8 _ ((hF.tr (hF2.mono fk_f1)).up _ rfl) (nc_fr hnc (fun j => hF2 29 j rfl)) (ng_up hng hF2 hv)
      · have hg : g1 30 i = nI (vg_ T C K.2.2.2 i) := (hng i hi).resolve_left hm
        rw [hv] at hg
        refine mm_I ok_Se_weigh 65 0 115 [some (.ref 25), some (.ref 1), some (.int (nI (sp_sum (pt6 T C K (T.1 + 1) x) k + sp_sum (sp_pt T (sp_W C K.2.2.2 k) cs) l))), some (.int (nI k)), some (.int (nI (sp_enc cs))), some (.int (nI (sp_has T cs.2 5))), some (.int (nI (sp_pc (sp_has T cs.2 5)))), some (.int (nI l)), some (.int (nI (cs.1 l))), some (.int (nI i))] [.int (-1), .int (g1 30 i)] (hp_SH ++ dy, g1, r) [] rfl trivial rfl rfl (fun _ => ?_) (fun q => False.elim (hm q))
        refine mm_B ok_Se_weigh 76 9 (54, [some (.ref 25), some (.ref 1), some (.int ((nI (sp_sum (pt6 T C K (T.1 + 1) x) k + sp_sum (sp_pt T (sp_W C K.2.2.2 k) cs) l)) + (g1 30 ((nI i).toNatClampNeg)))), some (.int (nI k)), some (.int (nI (sp_enc cs))), some (.int (nI (sp_has T cs.2 5))), some (.int (nI (sp_pc (sp_has T cs.2 5)))), some (.int ((nI l) + 1)), some (.int (nI (cs.1 l))), some (.int (nI i))], [], (hp_SH ++ dy, g1, r)) [vp_in (nI i) 840] rfl (show vp_in (nI i) 840 from (nI_vi hi (by decide))) ?_
        rw [nI_clamp (show i < 2 ^ 31 by omega), hg, nI_add, nI_1]
        refine mm_fg [8, 9] ?_
        exact h8 g1 hF hnc hng
theorem wg_go (dy : List mm_Sh) (g P : Nat → Nat → Int32) (r : (Nat → Nat → Int64) × Nat × (Nat → Int32)) (hP : nr_ g = P) {C : Nat → List Int32} (hR : rt_R dy P C) {T : sp_T} (hL : rl_L T P) {K : sp_K} (hK : rl_C K P) {x : Nat} {st : Nat × Nat} (h0 : mr_ T C K g 6 x) (hsr : sr_ T g st) (htr : ∀ j, j < 6 → g 27 j = pl_c (dec_ (T.1 + 1) x j)) : ∀ (m k : Nat) (g1 : Nat → Nat → Int32), k + m = K.1 → fr_ fk_ g g1 → nc_ C K.2.2.2 g1 → ng_ T C K.2.2.2 g1 → mm_W 6 M_Se_weigh 0 0 (vs_Q dy g r T C K 6 (bu_ (wt6 T C K (T.1 + 1)) st x)) 0 0 (4, [some (.ref 25), some (.ref 1), some (.int (nI (sp_sum (pt6 T C K (T.1 + 1) x) k))), some (.int (nI k)), none, none, none, none, none, none], [], (hp_SH ++ dy, g1, r)) := by
  have h4 := hL.2.1
  have h6 := hK.2.1
  have hWl : wt6 T C K (T.1 + 1) x ≤ 4800 := wt6_le h4 (fun l hl => (hL.2.2.1 l hl).2.2.2.1) h6
  intro m
  induction m with
  | zero =>
    intro k g1 hk hF hnc hng
    have hk : k = K.1 := hk
    have e21 : g1 2 1 = nI K.1 := by rw [nr_at (hF.nr fk_nr hP) 2 1 rfl]; exact hK.1
    refine mm_B ok_Se_weigh 4 4 (12, [some (.ref 25), some (.ref 1), some (.int (nI (sp_sum (pt6 T C K (T.1 + 1) x) k))), some (.int (nI k)), none, none, none, none, none, none], [.int (g1 2 1), .int (nI k)], (hp_SH ++ dy, g1, r)) [] rfl trivial ?_
    rw [e21]
    refine mm_I ok_Se_weigh 8 0 12 [some (.ref 25), some (.ref 1), some (.int (nI (sp_sum (pt6 T C K (T.1 + 1) x) k))), some (.int (nI k)), none, none, none, none, none, none] [.int (nI K.1), .int (nI k)] (hp_SH ++ dy, g1, r) [] rfl trivial rfl rfl (fun _ => ?_) (fun q => False.elim (q (nI_le (by omega) (by omega))))
    rw [hk]
    exact wg_tl dy g r (by omega) _ g1 hF hnc hng ⟨by rw [hF 25 1 rfl]; exact hsr.1, hsr.2.1, fun h b hb => by rw [hF 26 b rfl]; exact hsr.2.2 h b hb⟩ (fun j hj => by rw [hF 27 j rfl]; exact htr j hj)
  | succ m ih =>
    intro k g1 hk hF hnc hng
    have hP1 := hF.nr fk_nr hP
    have hkK : k < K.1 := by omega
    have e21 : g1 2 1 = nI K.1 := by rw [nr_at hP1 2 1 rfl]; exact hK.1
    have e28 : g1 28 (36 + k) = nI (sp_enc (rc_ T C K k 6 x)) := by rw [hF 28 _ rfl]; exact h0 k hkK
    have hle : ∀ i, i < 4 → (rc_ T C K k 6 x).1 i ≤ 6 ∧ (rc_ T C K k 6 x).2 i ≤ 6 := fun i hi => rp_le 6 x i hi
    have hin := fun g2 (hF2 : fr_ fk_ g g2) hnc2 hng2 => wg_in dy g P r hP hR hL hK (x := x) (k := k) (cs := rc_ T C K k 6 x) rfl hkK (st := st) (Q := vs_Q dy g r T C K 6 (bu_ (wt6 T C K (T.1 + 1)) st x)) (fun g2 h1 h2 h3 => ih (k + 1) g2 (by omega) h1 h2 h3) T.1 0 g2 (Nat.zero_add _) hF2 hnc2 hng2
    generalize rc_ T C K k 6 x = cs at e28 hle hin
    have hok : sp_ok cs := fun i hi => by have := hle i hi; omega
    have henc := sp_enc_lt hok
    have hh := sp_has_lt T cs.2 5 h4
    refine mm_B ok_Se_weigh 4 4 (12, [some (.ref 25), some (.ref 1), some (.int (nI (sp_sum (pt6 T C K (T.1 + 1) x) k))), some (.int (nI k)), none, none, none, none, none, none], [.int (g1 2 1), .int (nI k)], (hp_SH ++ dy, g1, r)) [] rfl trivial ?_
    rw [e21]
    refine mm_I ok_Se_weigh 8 0 12 [some (.ref 25), some (.ref 1), some (.int (nI (sp_sum (pt6 T C K (T.1 + 1) x) k))), some (.int (nI k)), none, none, none, none, none, none] [.int (nI K.1), .int (nI k)] (hp_SH ++ dy, g1, r) [] rfl trivial rfl rfl (fun q => False.elim (nI_ge hkK (by omega) q)) (fun _ => ?_)
    refine mm_B ok_Se_weigh 9 8 (28, [some (.ref 25), some (.ref 1), some (.int (nI (sp_sum (pt6 T C K (T.1 + 1) x) k))), some (.int (nI k)), some (.int (g1 28 ((36 + (nI k)).toNatClampNeg))), none, none, none, none, none], [.int (g1 28 ((36 + (nI k)).toNatClampNeg))], (hp_SH ++ dy, g1, r)) [vp_in (36 + (nI k)) 42] rfl (show vp_in (36 + (nI k)) 42 from (by rw [show (36 : Int32) + nI k = nI (36 + k) from nI_add 36 k]; exact nI_vi (by omega) (by decide))) ?_
    rw [show (36 : Int32) + nI k = nI (36 + k) from nI_add 36 k, nI_clamp (show 36 + k < 2 ^ 31 by omega), e28]
    by_cases h00 : sp_enc cs = 0
    · have hz : sp_has T cs.2 5 = 0 := bits_0 _ (fun l hl => enc_0 h00 l (by omega))
      refine mm_I ok_Se_weigh 17 0 28 [some (.ref 25), some (.ref 1), some (.int (nI (sp_sum (pt6 T C K (T.1 + 1) x) k))), some (.int (nI k)), some (.int (nI (sp_enc cs))), none, none, none, none, none] [.int (nI (sp_enc cs))] (hp_SH ++ dy, g1, r) [] rfl trivial rfl rfl (fun q => False.elim (q (by rw [h00]; rfl))) (fun _ => ?_)
      refine mm_B ok_Se_weigh 18 2 (42, [some (.ref 25), some (.ref 1), some (.int (nI (sp_sum (pt6 T C K (T.1 + 1) x) k))), some (.int (nI k)), some (.int (nI (sp_enc cs))), none, none, none, none, none], [.int 0], (hp_SH ++ dy, g1, r)) [] rfl trivial ?_
      refine mm_B ok_Se_weigh 24 2 (46, [some (.ref 25), some (.ref 1), some (.int (nI (sp_sum (pt6 T C K (T.1 + 1) x) k))), some (.int (nI k)), some (.int (nI (sp_enc cs))), some (.int 0), none, none, none, none], [.int 0], (hp_SH ++ dy, g1, r)) [] rfl trivial ?_
      refine mm_cS (as := [.int 0]) (st := []) cw_In_bitCount lk_Se_85 sx_In_bitCount (mm_at ok_Se_weigh (i := 26) rfl).1 (ct_In_bitCount (hp_SH ++ dy, g1, r) 0) (by decide) ⟨by omega, by omega⟩ (Nat.le_of_ble_eq_true rfl) (mm_vs_b (b := 77) rfl (hp_len dy)) (fun v h' hqq => ?_)
      obtain ⟨rfl, hqe⟩ := hqq; rw [hqe, show f_In_bitCount 0 = 0 by decide]
      refine mm_B ok_Se_weigh 27 3 (54, [some (.ref 25), some (.ref 1), some (.int (nI (sp_sum (pt6 T C K (T.1 + 1) x) k))), some (.int (nI k)), some (.int (nI (sp_enc cs))), some (.int 0), some (.int 0), some (.int 0), none, none], [], (hp_SH ++ dy, g1, r)) [] rfl trivial ?_
      have h8 := hin g1 hF hnc hng
      rw [hz] at h8
      exact h8
    · refine mm_I ok_Se_weigh 17 0 28 [some (.ref 25), some (.ref 1), some (.int (nI (sp_sum (pt6 T C K (T.1 + 1) x) k))), some (.int (nI k)), some (.int (nI (sp_enc cs))), none, none, none, none, none] [.int (nI (sp_enc cs))] (hp_SH ++ dy, g1, r) [] rfl trivial rfl rfl (fun _ => ?_) (fun q => False.elim (nI_ne0 (by omega) (by omega) q))
      refine mm_B ok_Se_weigh 20 3 (39, [some (.ref 25), some (.ref 1), some (.int (nI (sp_sum (pt6 T C K (T.1 + 1) x) k))), some (.int (nI k)), some (.int (nI (sp_enc cs))), none, none, none, none, none], [.int 5, .int (nI (sp_enc cs)), .ref 1], (hp_SH ++ dy, g1, r)) [] rfl trivial ?_
      refine mm_cV (as := [.int (nI (sp_enc cs)), .int 5]) (st := []) (q := 1) cw_Sp_owned lk_Se_81 in_Sp_owned sl_Sp_owned rfl rfl (mm_at ok_Se_weigh (i := 23) rfl).1 (ct_Sp_owned dy g1 P r hP1 hL hok (b := 5) (by decide) (fun i hi => by have := (hle i (by omega)).2; omega)) (by decide) ⟨by omega, by omega⟩ (Nat.le_of_ble_eq_true rfl) (mm_vs_b (b := 77) rfl (hp_len dy)) (fun v h' hqq => ?_)
      obtain ⟨rfl, hqe⟩ := hqq; rw [hqe]
      refine mm_B ok_Se_weigh 24 2 (46, [some (.ref 25), some (.ref 1), some (.int (nI (sp_sum (pt6 T C K (T.1 + 1) x) k))), some (.int (nI k)), some (.int (nI (sp_enc cs))), some (.int (nI (sp_has T cs.2 5))), none, none, none, none], [.int (nI (sp_has T cs.2 5))], (hp_SH ++ dy, g1, r)) [] rfl trivial ?_
      refine mm_cS (as := [.int (nI (sp_has T cs.2 5))]) (st := []) cw_In_bitCount lk_Se_85 sx_In_bitCount (mm_at ok_Se_weigh (i := 26) rfl).1 (ct_In_bitCount (hp_SH ++ dy, g1, r) (nI (sp_has T cs.2 5))) (by decide) ⟨by omega, by omega⟩ (Nat.le_of_ble_eq_true rfl) (mm_vs_b (b := 77) rfl (hp_len dy)) (fun v h' hqq => ?_)
      obtain ⟨rfl, hqe⟩ := hqq; rw [hqe, pc_bc _ hh]
      refine mm_B ok_Se_weigh 27 3 (54, [some (.ref 25), some (.ref 1), some (.int (nI (sp_sum (pt6 T C K (T.1 + 1) x) k))), some (.int (nI k)), some (.int (nI (sp_enc cs))), some (.int (nI (sp_has T cs.2 5))), some (.int (nI (sp_pc (sp_has T cs.2 5)))), some (.int 0), none, none], [], (hp_SH ++ dy, g1, r)) [] rfl trivial ?_
      exact hin g1 hF hnc hng
theorem ct_Se_weigh (dy : List mm_Sh) (g P : Nat → Nat → Int32) (r : (Nat → Nat → Int64) × Nat × (Nat → Int32)) (hP : nr_ g = P) {C : Nat → List Int32} (hR : rt_R dy P C) {T : sp_T} (hL : rl_L T P) {K : sp_K} (hK : rl_C K P) {x : Nat} {st : Nat × Nat} (h0 : mr_ T C K g 6 x) (hsr : sr_ T g st) (htr : ∀ j, j < 6 → g 27 j = pl_c (dec_ (T.1 + 1) x j)) (hnc : nc_ C K.2.2.2 g) (hng : ng_ T C K.2.2.2 g) : mm_Ct 6 M_Se_weigh [.ref 25, .ref 1] (hp_SH ++ dy, g, r) 0 0 (vs_Q dy g r T C K 6 (bu_ (wt6 T C K (T.1 + 1)) st x)) := by
  refine mm_start pl_Se (Nat.le_of_ble_eq_true rfl) ?_
  refine mm_B ok_Se_weigh 0 4 (4, [some (.ref 25), some (.ref 1), some (.int 0), some (.int 0), none, none, none, none, none, none], [], (hp_SH ++ dy, g, r)) [] rfl trivial ?_
  exact wg_go dy g P r hP hR hL hK h0 hsr htr K.1 0 g (Nat.zero_add _) fr_.rf hnc hng

