/-! ===== the law's body ===== -/
abbrev lQ : Option Value → mm_Hp → Prop := fun v _ => v = some (.int 1)
abbrev LW (nc ns : Nat) (σ : mm_S) : Prop := mm_W 2048 M_La_law 600000 7302250 lQ nc ns σ
abbrev LV (i : Nat) : mm_L := [some (.float 0), some (.ref 0), some (.ref 52), some (.int (nI i))]
theorem lcs (x : Int64) : lg_cmp x x = 0 := by
  unfold lg_cmp
  rw [if_neg (fun h : x < x => absurd h (Int64.lt_irrefl)), if_pos rfl]
theorem sb_ltg {S n i : Nat} (hS : S < 2 ^ 31) (hn : n < 2 ^ 31) (hi : i < 2 ^ 31) : nI S - nI n < nI i ↔ S < i + n := by
  rw [Int32.lt_iff_toInt_lt, Int32.toInt_sub, nI_toInt hS, nI_toInt hn, nI_toInt hi, Int.bmod_eq_of_le (by omega) (by omega)]
  omega
theorem and31 (y : Int32) : ∃ j : Nat, j < 32 ∧ y &&& 31 = nI j := by
  refine ⟨(y.toBitVec &&& 31#32).toNat, ?_, ?_⟩
  · rw [BitVec.toNat_and]
    exact Nat.and_lt_two_pow _ (show (31#32).toNat < 2 ^ 5 by decide)
  · apply Int32.toBitVec_inj.mp
    rw [Int32.toBitVec_and]
    show y.toBitVec &&& 31#32 = (nI _).toBitVec
    rw [show ∀ k, (nI k).toBitVec = BitVec.ofNat 32 k from fun k => rfl, BitVec.ofNat_toNat, BitVec.setWidth_eq]
theorem SN_lesson {A : sA} (h : SI A) (k n q : Int32) : SI (an_lesson A k n q).2 := by
  unfold an_lesson
  split
  · split
    · exact h
    · exact SI_lesson h _ _ _
  · exact h
theorem SN_set {A : sA} (h : SI A) (w o v : Int32) : SI (an_set A w o v).2 := by
  unfold an_set
  split
  · exact h
  · exact SI_set h _ _ _
theorem SN_give {A : sA} (h : SI A) (h4 : A.1.1 ≤ 4) (r b l : Int32) : SI (an_give A r b l).2 := by
  unfold an_give
  split
  · split
    · rename_i hv
      exact SI_give h (gl_some h4 hv).2
    · exact h
  · exact h
theorem SN_feed {A : sA} (h : SI A) (x : Int32) : SI (an_feed A x).2 := by
  unfold an_feed
  split
  · split
    · exact h
    · exact SI_feed h _
  · exact h
theorem SN_text {A : sA} (h : SI A) : SI (an_text A).2 := by
  unfold an_text
  split
  · exact h
  · split
    · exact SI_text h _
    · exact SI_tape h
    · exact h
theorem SN_force {A : sA} (h : SI A) (x : Int32) : SI (an_force A x).2 := by
  unfold an_force
  split
  · exact SI_force h _
  · exact h
theorem SN_image {A : sA} (h : SI A) {P : Nat → Nat → Int32} (hI : MI P A) : SI (an_image A).2 :=
  SI_image h (fun l hl => by obtain ⟨a1, a2, a3, a4, a5, a6⟩ := hI.1.2.2 l hl; exact ⟨a2, a4, a6⟩) hI.2.1.2.1 (fun c hc => by obtain ⟨a1, a2, a3, a4, a5⟩ := hI.2.1.2.2 c hc; exact ⟨a3, a4⟩) hI.2.2.2.1.2.2.2.1
theorem SN_back {A : sA} (h : SI A) : SI (an_back A).2 := by
  unfold an_back
  split
  · exact h
  · rename_i q hq
    exact SI_back h hq
theorem SN_sheet {A : sA} (h : SI A) (s t n : Int32) : SI (an_sheet A s t n).2 := by
  unfold an_sheet
  split
  · exact h
  · split
    · exact h
    · exact SI_sh h _ _
theorem SN_cell {A : sA} (h : SI A) (s i v : Int32) : SI (an_cell A s i v).2 := by
  unfold an_cell
  split
  · exact h
  · split
    · exact h
    · split
      · exact h
      · exact SI_sh h _ _
theorem SN_copy {A : sA} (h : SI A) (s i o j n : Int32) : SI (an_copy A s i o j n).2 := by
  unfold an_copy
  split
  · split
    · split
      · split
        · exact SI_sh h _ _
        · exact h
      · exact h
    · exact h
  · exact h
theorem SN_children {A : sA} (h : SI A) (s t f n : Int32) : SI (an_children A s t f n).2 := by
  unfold an_children
  split
  · split
    · exact h
    · split
      · exact SI_cl _ _ _ _ h
      · exact h
  · exact h
def hs_135 : List mm_Sh := []
theorem lwc_lesson {dy : List mm_Sh} {g : Nat → Nat → Int32} {r : (Nat → Nat → Int64) × Nat × (Nat → Int32)} {A : sA} (hI : CI dy (nr_ g) A) (hM : MI (nr_ g) A) (hSI : SI A) (hdy : dy.length ≤ 3000) {nc ns : Nat} (hnc : nc + 4 ≤ 600000) (hns : ns + 483 ≤ 7302250) {i : Nat} (hi : i + 6 ≤ r.2.1) (hL : r.2.1 ≤ 3072) (K : ∀ (nc' ns' : Nat) (dy' : List mm_Sh) (g' : Nat → Nat → Int32) (r' : (Nat → Nat → Int64) × Nat × (Nat → Int32)) (A' : sA), nc' ≤ nc + 4 → ns' ≤ ns + 483 → r'.2 = r.2 → dy'.length ≤ dy.length + 4 → CI dy' (nr_ g') A' → MI (nr_ g') A' → SI A' → LW nc' ns' (1206, LV i, [], (hp_SH ++ dy', g', r'))) : LW nc ns (172, LV i, [], (hp_SH ++ dy, g, r)) := by
  have h1 : vp_in (nI i + 1) r.2.1 := by rw [show nI i + 1 = nI (i + 1) from nI_add i 1]; exact nI_vi (by omega) (by omega)
  have h2 : vp_in (nI i + 2) r.2.1 := by rw [show nI i + 2 = nI (i + 2) from nI_add i 2]; exact nI_vi (by omega) (by omega)
  have h3 : vp_in (nI i + 3) r.2.1 := by rw [show nI i + 3 = nI (i + 3) from nI_add i 3]; exact nI_vi (by omega) (by omega)
  refine mm_B ok_La_law_0 22 16 (188, [some (.float 0), some (.ref 0), some (.ref 52), some (.int (nI i))], [.int (r.2.2 (((nI i) + 3).toNatClampNeg)), .int (r.2.2 (((nI i) + 2).toNatClampNeg)), .int (r.2.2 (((nI i) + 1).toNatClampNeg)), .ref 0], (hp_SH ++ dy, g, r)) [vp_in ((nI i) + 1) r.2.1, vp_in ((nI i) + 2) r.2.1, vp_in ((nI i) + 3) r.2.1] rfl (show (vp_in ((nI i) + 1) r.2.1) ∧ (vp_in ((nI i) + 2) r.2.1) ∧ (vp_in ((nI i) + 3) r.2.1) from ⟨h1, h2, h3⟩) ?_
  refine mm_cV (as := [.int (r.2.2 (((nI i) + 1).toNatClampNeg)), .int (r.2.2 (((nI i) + 2).toNatClampNeg)), .int (r.2.2 (((nI i) + 3).toNatClampNeg))]) (st := []) (q := 0) cw_Sc_lesson lk_La_13 in_Sc_lesson sl_Sc_lesson rfl rfl (mm_at ok_La_law_0 (i := 38) rfl).1 (cc_lesson dy g r hI hSI (r.2.2 ((nI i + 1).toNatClampNeg)) (r.2.2 ((nI i + 2).toNatClampNeg)) (r.2.2 ((nI i + 3).toNatClampNeg))) (by decide) ⟨by omega, by omega⟩ (Nat.le_of_ble_eq_true rfl) (mm_vs_b (b := 77) rfl (hp_len _)) (fun v h' hqq => ?_)
  obtain ⟨rfl, dy1, g1, r1, hqe, hr1, hd1, hI1, hf1⟩ := hqq
  obtain ⟨l1, s1⟩ := r1
  have hs1 : s1 = r.2 := hr1
  subst hs1
  rw [hqe]
  have hM1 : MI (nr_ g1) A := MI_cl hM (fun k j h1 h2 => nr_cong (hf1 k j h1 h2))
  refine mm_B ok_La_law_0 39 11 (202, [some (.float 0), some (.ref 0), some (.ref 52), some (.int (nI i))], [.int ((l1, r.2).2.2 (((nI i) + 2).toNatClampNeg)), .int ((l1, r.2).2.2 (((nI i) + 1).toNatClampNeg)), .ref 52, .int ((an_lesson A (r.2.2 ((nI i + 1).toNatClampNeg)) (r.2.2 ((nI i + 2).toNatClampNeg)) (r.2.2 ((nI i + 3).toNatClampNeg))).1)], (hp_SH ++ (dy ++ dy1), g1, (l1, r.2))) [vp_in ((nI i) + 1) (l1, r.2).2.1, vp_in ((nI i) + 2) (l1, r.2).2.1] rfl (show (vp_in ((nI i) + 1) (l1, r.2).2.1) ∧ (vp_in ((nI i) + 2) (l1, r.2).2.1) from ⟨h1, h2⟩) ?_
  refine mm_B ok_La_law_1 0 5 (207, [some (.float 0), some (.ref 0), some (.ref 52), some (.int (nI i))], [.int ((l1, r.2).2.2 (((nI i) + 3).toNatClampNeg)), .int ((l1, r.2).2.2 (((nI i) + 2).toNatClampNeg)), .int ((l1, r.2).2.2 (((nI i) + 1).toNatClampNeg)), .ref 52, .int ((an_lesson A (r.2.2 ((nI i + 1).toNatClampNeg)) (r.2.2 ((nI i + 2).toNatClampNeg)) (r.2.2 ((nI i + 3).toNatClampNeg))).1)], (hp_SH ++ (dy ++ dy1), g1, (l1, r.2))) [vp_in ((nI i) + 3) (l1, r.2).2.1] rfl (show vp_in ((nI i) + 3) (l1, r.2).2.1 from h3) ?_
  refine mm_cV (as := [.int ((l1, r.2).2.2 (((nI i) + 1).toNatClampNeg)), .int ((l1, r.2).2.2 (((nI i) + 2).toNatClampNeg)), .int ((l1, r.2).2.2 (((nI i) + 3).toNatClampNeg))]) (st := [.int ((an_lesson A (r.2.2 ((nI i + 1).toNatClampNeg)) (r.2.2 ((nI i + 2).toNatClampNeg)) (r.2.2 ((nI i + 3).toNatClampNeg))).1)]) (q := 52) cw_Mo_lesson lk_La_17 in_Mo_lesson sl_Mo_lesson rfl rfl (mm_at ok_La_law_1 (i := 5) rfl).1 (cm_lesson (dy ++ dy1) g1 (l1, r.2) hM1 hSI (r.2.2 ((nI i + 1).toNatClampNeg)) (r.2.2 ((nI i + 2).toNatClampNeg)) (r.2.2 ((nI i + 3).toNatClampNeg))) (by decide) ⟨by omega, by omega⟩ (Nat.le_of_ble_eq_true rfl) (mm_vs_b (b := 77) rfl (hp_len _)) (fun v h' hqq => ?_)
  obtain ⟨rfl, g2, r2, hqe2, hr2, hM2, hf2⟩ := hqq
  rw [hqe2]
  refine mm_I ok_La_law_1 6 0 210 [some (.float 0), some (.ref 0), some (.ref 52), some (.int (nI i))] [.int ((an_lesson A (r.2.2 ((nI i + 1).toNatClampNeg)) (r.2.2 ((nI i + 2).toNatClampNeg)) (r.2.2 ((nI i + 3).toNatClampNeg))).1), .int ((an_lesson A (r.2.2 ((nI i + 1).toNatClampNeg)) (r.2.2 ((nI i + 2).toNatClampNeg)) (r.2.2 ((nI i + 3).toNatClampNeg))).1)] (hp_SH ++ (dy ++ dy1), g2, r2) [] rfl trivial rfl rfl (fun _ => ?_) (fun q => False.elim (q rfl))
  exact K _ _ (dy ++ dy1) g2 r2 _ (by omega) (by omega) hr2 (by rw [List.length_append]; omega) (CI_md hI1 (fun k j h => nr_cong (hf2 k j h))) hM2 (SN_lesson hSI _ _ _)
theorem lwc_child {dy : List mm_Sh} {g : Nat → Nat → Int32} {r : (Nat → Nat → Int64) × Nat × (Nat → Int32)} {A : sA} (hI : CI dy (nr_ g) A) (hM : MI (nr_ g) A) (hSI : SI A) (hdy : dy.length ≤ 3000) {nc ns : Nat} (hnc : nc + 4 ≤ 600000) (hns : ns + 483 ≤ 7302250) {i : Nat} (hi : i + 6 ≤ r.2.1) (hL : r.2.1 ≤ 3072) (K : ∀ (nc' ns' : Nat) (dy' : List mm_Sh) (g' : Nat → Nat → Int32) (r' : (Nat → Nat → Int64) × Nat × (Nat → Int32)) (A' : sA), nc' ≤ nc + 4 → ns' ≤ ns + 483 → r'.2 = r.2 → dy'.length ≤ dy.length + 4 → CI dy' (nr_ g') A' → MI (nr_ g') A' → SI A' → LW nc' ns' (1206, LV i, [], (hp_SH ++ dy', g', r'))) : LW nc ns (215, LV i, [], (hp_SH ++ dy, g, r)) := by
  have h1 : vp_in (nI i + 1) r.2.1 := by rw [show nI i + 1 = nI (i + 1) from nI_add i 1]; exact nI_vi (by omega) (by omega)
  have h2 : vp_in (nI i + 2) r.2.1 := by rw [show nI i + 2 = nI (i + 2) from nI_add i 2]; exact nI_vi (by omega) (by omega)
  refine mm_B ok_La_law_1 9 11 (226, [some (.float 0), some (.ref 0), some (.ref 52), some (.int (nI i))], [.int (r.2.2 (((nI i) + 2).toNatClampNeg)), .int (r.2.2 (((nI i) + 1).toNatClampNeg)), .ref 0], (hp_SH ++ dy, g, r)) [vp_in ((nI i) + 1) r.2.1, vp_in ((nI i) + 2) r.2.1] rfl (show (vp_in ((nI i) + 1) r.2.1) ∧ (vp_in ((nI i) + 2) r.2.1) from ⟨h1, h2⟩) ?_
  refine mm_cV (as := [.int (r.2.2 (((nI i) + 1).toNatClampNeg)), .int (r.2.2 (((nI i) + 2).toNatClampNeg))]) (st := []) (q := 0) cw_Sc_child lk_La_18 in_Sc_child sl_Sc_child rfl rfl (mm_at ok_La_law_1 (i := 20) rfl).1 (cc_child dy g r hI (r.2.2 ((nI i + 1).toNatClampNeg)) (r.2.2 ((nI i + 2).toNatClampNeg))) (by decide) ⟨by omega, by omega⟩ (Nat.le_of_ble_eq_true rfl) (mm_vs_b (b := 77) rfl (hp_len _)) (fun v h' hqq => ?_)
  obtain ⟨rfl, dy1, g1, r1, hqe, hr1, hd1, hI1, hf1⟩ := hqq
  obtain ⟨l1, s1⟩ := r1
  have hs1 : s1 = r.2 := hr1
  subst hs1
  rw [hqe]
  have hM1 : MI (nr_ g1) A := MI_cl hM (fun k j h1 h2 => nr_cong (hf1 k j h1 h2))
  refine mm_B ok_La_law_1 21 11 (240, [some (.float 0), some (.ref 0), some (.ref 52), some (.int (nI i))], [.int ((l1, r.2).2.2 (((nI i) + 2).toNatClampNeg)), .int ((l1, r.2).2.2 (((nI i) + 1).toNatClampNeg)), .ref 52, .int ((an_child A (r.2.2 ((nI i + 1).toNatClampNeg)) (r.2.2 ((nI i + 2).toNatClampNeg))).1)], (hp_SH ++ (dy ++ dy1), g1, (l1, r.2))) [vp_in ((nI i) + 1) (l1, r.2).2.1, vp_in ((nI i) + 2) (l1, r.2).2.1] rfl (show (vp_in ((nI i) + 1) (l1, r.2).2.1) ∧ (vp_in ((nI i) + 2) (l1, r.2).2.1) from ⟨h1, h2⟩) ?_
  refine mm_cV (as := [.int ((l1, r.2).2.2 (((nI i) + 1).toNatClampNeg)), .int ((l1, r.2).2.2 (((nI i) + 2).toNatClampNeg))]) (st := [.int ((an_child A (r.2.2 ((nI i + 1).toNatClampNeg)) (r.2.2 ((nI i + 2).toNatClampNeg))).1)]) (q := 52) cw_Mo_child lk_La_22 in_Mo_child sl_Mo_child rfl rfl (mm_at ok_La_law_1 (i := 32) rfl).1 (cm_child (dy ++ dy1) g1 (l1, r.2) hM1 (r.2.2 ((nI i + 1).toNatClampNeg)) (r.2.2 ((nI i + 2).toNatClampNeg))) (by decide) ⟨by omega, by omega⟩ (Nat.le_of_ble_eq_true rfl) (mm_vs_b (b := 77) rfl (hp_len _)) (fun v h' hqq => ?_)
  obtain ⟨rfl, g2, r2, hqe2, hr2, hM2, hf2⟩ := hqq
  rw [hqe2]
  refine mm_I ok_La_law_1 33 0 243 [some (.float 0), some (.ref 0), some (.ref 52), some (.int (nI i))] [.int ((an_child A (r.2.2 ((nI i + 1).toNatClampNeg)) (r.2.2 ((nI i + 2).toNatClampNeg))).1), .int ((an_child A (r.2.2 ((nI i + 1).toNatClampNeg)) (r.2.2 ((nI i + 2).toNatClampNeg))).1)] (hp_SH ++ (dy ++ dy1), g2, r2) [] rfl trivial rfl rfl (fun _ => ?_) (fun q => False.elim (q rfl))
  exact K _ _ (dy ++ dy1) g2 r2 _ (by omega) (by omega) hr2 (by rw [List.length_append]; omega) (CI_md hI1 (fun k j h => nr_cong (hf2 k j h))) hM2 (SI_ch hSI _ _)
theorem lwc_set {dy : List mm_Sh} {g : Nat → Nat → Int32} {r : (Nat → Nat → Int64) × Nat × (Nat → Int32)} {A : sA} (hI : CI dy (nr_ g) A) (hM : MI (nr_ g) A) (hSI : SI A) (hdy : dy.length ≤ 3000) {nc ns : Nat} (hnc : nc + 4 ≤ 600000) (hns : ns + 483 ≤ 7302250) {i : Nat} (hi : i + 6 ≤ r.2.1) (hL : r.2.1 ≤ 3072) (K : ∀ (nc' ns' : Nat) (dy' : List mm_Sh) (g' : Nat → Nat → Int32) (r' : (Nat → Nat → Int64) × Nat × (Nat → Int32)) (A' : sA), nc' ≤ nc + 4 → ns' ≤ ns + 483 → r'.2 = r.2 → dy'.length ≤ dy.length + 4 → CI dy' (nr_ g') A' → MI (nr_ g') A' → SI A' → LW nc' ns' (1206, LV i, [], (hp_SH ++ dy', g', r'))) : LW nc ns (248, LV i, [], (hp_SH ++ dy, g, r)) := by
  have h1 : vp_in (nI i + 1) r.2.1 := by rw [show nI i + 1 = nI (i + 1) from nI_add i 1]; exact nI_vi (by omega) (by omega)
  have h2 : vp_in (nI i + 2) r.2.1 := by rw [show nI i + 2 = nI (i + 2) from nI_add i 2]; exact nI_vi (by omega) (by omega)
  have h3 : vp_in (nI i + 3) r.2.1 := by rw [show nI i + 3 = nI (i + 3) from nI_add i 3]; exact nI_vi (by omega) (by omega)
  refine mm_B ok_La_law_1 36 14 (262, [some (.float 0), some (.ref 0), some (.ref 52), some (.int (nI i))], [.int 3, .int (nI i), .float 0, .int (r.2.2 (((nI i) + 2).toNatClampNeg)), .int (r.2.2 (((nI i) + 1).toNatClampNeg)), .ref 0], (hp_SH ++ dy, g, r)) [vp_in ((nI i) + 1) r.2.1, vp_in ((nI i) + 2) r.2.1] rfl (show (vp_in ((nI i) + 1) r.2.1) ∧ (vp_in ((nI i) + 2) r.2.1) from ⟨h1, h2⟩) ?_
  refine mm_B ok_La_law_2 0 2 (264, [some (.float 0), some (.ref 0), some (.ref 52), some (.int (nI i))], [.int (r.2.2 (((nI i) + 3).toNatClampNeg)), .int (r.2.2 (((nI i) + 2).toNatClampNeg)), .int (r.2.2 (((nI i) + 1).toNatClampNeg)), .ref 0], (hp_SH ++ dy, g, r)) [vp_in ((nI i) + 3) r.2.1] rfl (show vp_in ((nI i) + 3) r.2.1 from h3) ?_
  refine mm_cV (as := [.int (r.2.2 (((nI i) + 1).toNatClampNeg)), .int (r.2.2 (((nI i) + 2).toNatClampNeg)), .int (r.2.2 (((nI i) + 3).toNatClampNeg))]) (st := []) (q := 0) cw_Sc_set lk_La_23 in_Sc_set sl_Sc_set rfl rfl (mm_at ok_La_law_2 (i := 2) rfl).1 (cc_set dy g r hI hSI (r.2.2 ((nI i + 1).toNatClampNeg)) (r.2.2 ((nI i + 2).toNatClampNeg)) (r.2.2 ((nI i + 3).toNatClampNeg))) (by decide) ⟨by omega, by omega⟩ (Nat.le_of_ble_eq_true rfl) (mm_vs_b (b := 77) rfl (hp_len _)) (fun v h' hqq => ?_)
  obtain ⟨rfl, dy1, g1, r1, hqe, hr1, hd1, hI1, hf1⟩ := hqq
  obtain ⟨l1, s1⟩ := r1
  have hs1 : s1 = r.2 := hr1
  subst hs1
  rw [hqe]
  have hM1 : MI (nr_ g1) A := MI_cl hM (fun k j h1 h2 => nr_cong (hf1 k j h1 h2))
  refine mm_B ok_La_law_2 3 16 (283, [some (.float 0), some (.ref 0), some (.ref 52), some (.int (nI i))], [.int ((l1, r.2).2.2 (((nI i) + 3).toNatClampNeg)), .int ((l1, r.2).2.2 (((nI i) + 2).toNatClampNeg)), .int ((l1, r.2).2.2 (((nI i) + 1).toNatClampNeg)), .ref 52, .int ((an_set A (r.2.2 ((nI i + 1).toNatClampNeg)) (r.2.2 ((nI i + 2).toNatClampNeg)) (r.2.2 ((nI i + 3).toNatClampNeg))).1)], (hp_SH ++ (dy ++ dy1), g1, (l1, r.2))) [vp_in ((nI i) + 1) (l1, r.2).2.1, vp_in ((nI i) + 2) (l1, r.2).2.1, vp_in ((nI i) + 3) (l1, r.2).2.1] rfl (show (vp_in ((nI i) + 1) (l1, r.2).2.1) ∧ (vp_in ((nI i) + 2) (l1, r.2).2.1) ∧ (vp_in ((nI i) + 3) (l1, r.2).2.1) from ⟨h1, h2, h3⟩) ?_
  refine mm_cV (as := [.int ((l1, r.2).2.2 (((nI i) + 1).toNatClampNeg)), .int ((l1, r.2).2.2 (((nI i) + 2).toNatClampNeg)), .int ((l1, r.2).2.2 (((nI i) + 3).toNatClampNeg))]) (st := [.int ((an_set A (r.2.2 ((nI i + 1).toNatClampNeg)) (r.2.2 ((nI i + 2).toNatClampNeg)) (r.2.2 ((nI i + 3).toNatClampNeg))).1)]) (q := 52) cw_Mo_set lk_La_26 in_Mo_set sl_Mo_set rfl rfl (mm_at ok_La_law_2 (i := 19) rfl).1 (cm_set (dy ++ dy1) g1 (l1, r.2) hM1 hSI (r.2.2 ((nI i + 1).toNatClampNeg)) (r.2.2 ((nI i + 2).toNatClampNeg)) (r.2.2 ((nI i + 3).toNatClampNeg))) (by decide) ⟨by omega, by omega⟩ (Nat.le_of_ble_eq_true rfl) (mm_vs_b (b := 77) rfl (hp_len _)) (fun v h' hqq => ?_)
  obtain ⟨rfl, g2, r2, hqe2, hr2, hM2, hf2⟩ := hqq
  rw [hqe2]
  refine mm_I ok_La_law_2 20 0 286 [some (.float 0), some (.ref 0), some (.ref 52), some (.int (nI i))] [.int ((an_set A (r.2.2 ((nI i + 1).toNatClampNeg)) (r.2.2 ((nI i + 2).toNatClampNeg)) (r.2.2 ((nI i + 3).toNatClampNeg))).1), .int ((an_set A (r.2.2 ((nI i + 1).toNatClampNeg)) (r.2.2 ((nI i + 2).toNatClampNeg)) (r.2.2 ((nI i + 3).toNatClampNeg))).1)] (hp_SH ++ (dy ++ dy1), g2, r2) [] rfl trivial rfl rfl (fun _ => ?_) (fun q => False.elim (q rfl))
  exact K _ _ (dy ++ dy1) g2 r2 _ (by omega) (by omega) hr2 (by rw [List.length_append]; omega) (CI_md hI1 (fun k j h => nr_cong (hf2 k j h))) hM2 (SN_set hSI _ _ _)
theorem lwc_told {dy : List mm_Sh} {g : Nat → Nat → Int32} {r : (Nat → Nat → Int64) × Nat × (Nat → Int32)} {A : sA} (hI : CI dy (nr_ g) A) (hM : MI (nr_ g) A) (hSI : SI A) (hdy : dy.length ≤ 3000) {nc ns : Nat} (hnc : nc + 4 ≤ 600000) (hns : ns + 483 ≤ 7302250) {i : Nat} (hi : i + 6 ≤ r.2.1) (hL : r.2.1 ≤ 3072) (K : ∀ (nc' ns' : Nat) (dy' : List mm_Sh) (g' : Nat → Nat → Int32) (r' : (Nat → Nat → Int64) × Nat × (Nat → Int32)) (A' : sA), nc' ≤ nc + 4 → ns' ≤ ns + 483 → r'.2 = r.2 → dy'.length ≤ dy.length + 4 → CI dy' (nr_ g') A' → MI (nr_ g') A' → SI A' → LW nc' ns' (1206, LV i, [], (hp_SH ++ dy', g', r'))) : LW nc ns (291, LV i, [], (hp_SH ++ dy, g, r)) := by
  have h1 : vp_in (nI i + 1) r.2.1 := by rw [show nI i + 1 = nI (i + 1) from nI_add i 1]; exact nI_vi (by omega) (by omega)
  have h2 : vp_in (nI i + 2) r.2.1 := by rw [show nI i + 2 = nI (i + 2) from nI_add i 2]; exact nI_vi (by omega) (by omega)
  refine mm_B ok_La_law_2 23 11 (302, [some (.float 0), some (.ref 0), some (.ref 52), some (.int (nI i))], [.int (r.2.2 (((nI i) + 2).toNatClampNeg)), .int (r.2.2 (((nI i) + 1).toNatClampNeg)), .ref 0], (hp_SH ++ dy, g, r)) [vp_in ((nI i) + 1) r.2.1, vp_in ((nI i) + 2) r.2.1] rfl (show (vp_in ((nI i) + 1) r.2.1) ∧ (vp_in ((nI i) + 2) r.2.1) from ⟨h1, h2⟩) ?_
  refine mm_cV (as := [.int (r.2.2 (((nI i) + 1).toNatClampNeg)), .int (r.2.2 (((nI i) + 2).toNatClampNeg))]) (st := []) (q := 0) cw_Sc_told lk_La_27 in_Sc_told sl_Sc_told rfl rfl (mm_at ok_La_law_2 (i := 34) rfl).1 (cc_told dy g r hI hSI (r.2.2 ((nI i + 1).toNatClampNeg)) (r.2.2 ((nI i + 2).toNatClampNeg))) (by decide) ⟨by omega, by omega⟩ (Nat.le_of_ble_eq_true rfl) (mm_vs_b (b := 77) rfl (hp_len _)) (fun v h' hqq => ?_)
  obtain ⟨rfl, dy1, g1, r1, hqe, hr1, hd1, hI1, hf1⟩ := hqq
  obtain ⟨l1, s1⟩ := r1
  have hs1 : s1 = r.2 := hr1
  subst hs1
  rw [hqe]
  have hM1 : MI (nr_ g1) A := MI_cl hM (fun k j h1 h2 => nr_cong (hf1 k j h1 h2))
  refine mm_B ok_La_law_2 35 11 (316, [some (.float 0), some (.ref 0), some (.ref 52), some (.int (nI i))], [.int ((l1, r.2).2.2 (((nI i) + 2).toNatClampNeg)), .int ((l1, r.2).2.2 (((nI i) + 1).toNatClampNeg)), .ref 52, .int (an_told A (r.2.2 ((nI i + 1).toNatClampNeg)) (r.2.2 ((nI i + 2).toNatClampNeg)))], (hp_SH ++ (dy ++ dy1), g1, (l1, r.2))) [vp_in ((nI i) + 1) (l1, r.2).2.1, vp_in ((nI i) + 2) (l1, r.2).2.1] rfl (show (vp_in ((nI i) + 1) (l1, r.2).2.1) ∧ (vp_in ((nI i) + 2) (l1, r.2).2.1) from ⟨h1, h2⟩) ?_
  refine mm_cV (as := [.int ((l1, r.2).2.2 (((nI i) + 1).toNatClampNeg)), .int ((l1, r.2).2.2 (((nI i) + 2).toNatClampNeg))]) (st := [.int (an_told A (r.2.2 ((nI i + 1).toNatClampNeg)) (r.2.2 ((nI i + 2).toNatClampNeg)))]) (q := 52) cw_Mo_told lk_La_30 in_Mo_told sl_Mo_told rfl rfl (mm_at ok_La_law_2 (i := 46) rfl).1 (cm_told (dy ++ dy1) g1 (l1, r.2) hM1 hSI (r.2.2 ((nI i + 1).toNatClampNeg)) (r.2.2 ((nI i + 2).toNatClampNeg))) (by decide) ⟨by omega, by omega⟩ (Nat.le_of_ble_eq_true rfl) (mm_vs_b (b := 77) rfl (hp_len _)) (fun v h' hqq => ?_)
  obtain ⟨rfl, g2, r2, hqe2, hr2, hM2, hf2⟩ := hqq
  rw [hqe2]
  refine mm_I ok_La_law_2 47 0 319 [some (.float 0), some (.ref 0), some (.ref 52), some (.int (nI i))] [.int (an_told A (r.2.2 ((nI i + 1).toNatClampNeg)) (r.2.2 ((nI i + 2).toNatClampNeg))), .int (an_told A (r.2.2 ((nI i + 1).toNatClampNeg)) (r.2.2 ((nI i + 2).toNatClampNeg)))] (hp_SH ++ (dy ++ dy1), g2, r2) [] rfl trivial rfl rfl (fun _ => ?_) (fun q => False.elim (q rfl))
  exact K _ _ (dy ++ dy1) g2 r2 _ (by omega) (by omega) hr2 (by rw [List.length_append]; omega) (CI_md hI1 (fun k j h => nr_cong (hf2 k j h))) hM2 (hSI)
theorem lwc_give {dy : List mm_Sh} {g : Nat → Nat → Int32} {r : (Nat → Nat → Int64) × Nat × (Nat → Int32)} {A : sA} (hI : CI dy (nr_ g) A) (hM : MI (nr_ g) A) (hSI : SI A) (hdy : dy.length ≤ 3000) {nc ns : Nat} (hnc : nc + 4 ≤ 600000) (hns : ns + 483 ≤ 7302250) {i : Nat} (hi : i + 6 ≤ r.2.1) (hL : r.2.1 ≤ 3072) (K : ∀ (nc' ns' : Nat) (dy' : List mm_Sh) (g' : Nat → Nat → Int32) (r' : (Nat → Nat → Int64) × Nat × (Nat → Int32)) (A' : sA), nc' ≤ nc + 4 → ns' ≤ ns + 483 → r'.2 = r.2 → dy'.length ≤ dy.length + 4 → CI dy' (nr_ g') A' → MI (nr_ g') A' → SI A' → LW nc' ns' (1206, LV i, [], (hp_SH ++ dy', g', r'))) : LW nc ns (324, LV i, [], (hp_SH ++ dy, g, r)) := by
  have h1 : vp_in (nI i + 1) r.2.1 := by rw [show nI i + 1 = nI (i + 1) from nI_add i 1]; exact nI_vi (by omega) (by omega)
  have h2 : vp_in (nI i + 2) r.2.1 := by rw [show nI i + 2 = nI (i + 2) from nI_add i 2]; exact nI_vi (by omega) (by omega)
  have h3 : vp_in (nI i + 3) r.2.1 := by rw [show nI i + 3 = nI (i + 3) from nI_add i 3]; exact nI_vi (by omega) (by omega)
  refine mm_B ok_La_law_3 0 16 (340, [some (.float 0), some (.ref 0), some (.ref 52), some (.int (nI i))], [.int (r.2.2 (((nI i) + 3).toNatClampNeg)), .int (r.2.2 (((nI i) + 2).toNatClampNeg)), .int (r.2.2 (((nI i) + 1).toNatClampNeg)), .ref 0], (hp_SH ++ dy, g, r)) [vp_in ((nI i) + 1) r.2.1, vp_in ((nI i) + 2) r.2.1, vp_in ((nI i) + 3) r.2.1] rfl (show (vp_in ((nI i) + 1) r.2.1) ∧ (vp_in ((nI i) + 2) r.2.1) ∧ (vp_in ((nI i) + 3) r.2.1) from ⟨h1, h2, h3⟩) ?_
  refine mm_cV (as := [.int (r.2.2 (((nI i) + 1).toNatClampNeg)), .int (r.2.2 (((nI i) + 2).toNatClampNeg)), .int (r.2.2 (((nI i) + 3).toNatClampNeg))]) (st := []) (q := 0) cw_Sc_give lk_La_31 in_Sc_give sl_Sc_give rfl rfl (mm_at ok_La_law_3 (i := 16) rfl).1 (cc_give dy g r hI hSI (r.2.2 ((nI i + 1).toNatClampNeg)) (r.2.2 ((nI i + 2).toNatClampNeg)) (r.2.2 ((nI i + 3).toNatClampNeg))) (by decide) ⟨by omega, by omega⟩ (Nat.le_of_ble_eq_true rfl) (mm_vs_b (b := 77) rfl (hp_len _)) (fun v h' hqq => ?_)
  obtain ⟨rfl, dy1, g1, r1, hqe, hr1, hd1, hI1, hf1⟩ := hqq
  obtain ⟨l1, s1⟩ := r1
  have hs1 : s1 = r.2 := hr1
  subst hs1
  rw [hqe]
  have hM1 : MI (nr_ g1) A := MI_cl hM (fun k j h1 h2 => nr_cong (hf1 k j h1 h2))
  refine mm_B ok_La_law_3 17 16 (359, [some (.float 0), some (.ref 0), some (.ref 52), some (.int (nI i))], [.int ((l1, r.2).2.2 (((nI i) + 3).toNatClampNeg)), .int ((l1, r.2).2.2 (((nI i) + 2).toNatClampNeg)), .int ((l1, r.2).2.2 (((nI i) + 1).toNatClampNeg)), .ref 52, .int ((an_give A (r.2.2 ((nI i + 1).toNatClampNeg)) (r.2.2 ((nI i + 2).toNatClampNeg)) (r.2.2 ((nI i + 3).toNatClampNeg))).1)], (hp_SH ++ (dy ++ dy1), g1, (l1, r.2))) [vp_in ((nI i) + 1) (l1, r.2).2.1, vp_in ((nI i) + 2) (l1, r.2).2.1, vp_in ((nI i) + 3) (l1, r.2).2.1] rfl (show (vp_in ((nI i) + 1) (l1, r.2).2.1) ∧ (vp_in ((nI i) + 2) (l1, r.2).2.1) ∧ (vp_in ((nI i) + 3) (l1, r.2).2.1) from ⟨h1, h2, h3⟩) ?_
  refine mm_cV (as := [.int ((l1, r.2).2.2 (((nI i) + 1).toNatClampNeg)), .int ((l1, r.2).2.2 (((nI i) + 2).toNatClampNeg)), .int ((l1, r.2).2.2 (((nI i) + 3).toNatClampNeg))]) (st := [.int ((an_give A (r.2.2 ((nI i + 1).toNatClampNeg)) (r.2.2 ((nI i + 2).toNatClampNeg)) (r.2.2 ((nI i + 3).toNatClampNeg))).1)]) (q := 52) cw_Mo_give lk_La_34 in_Mo_give sl_Mo_give rfl rfl (mm_at ok_La_law_3 (i := 33) rfl).1 (cm_give (dy ++ dy1) g1 (l1, r.2) hM1 hSI (r.2.2 ((nI i + 1).toNatClampNeg)) (r.2.2 ((nI i + 2).toNatClampNeg)) (r.2.2 ((nI i + 3).toNatClampNeg))) (by decide) ⟨by omega, by omega⟩ (Nat.le_of_ble_eq_true rfl) (mm_vs_b (b := 77) rfl (hp_len _)) (fun v h' hqq => ?_)
  obtain ⟨rfl, g2, r2, hqe2, hr2, hM2, hf2⟩ := hqq
  rw [hqe2]
  refine mm_I ok_La_law_3 34 0 362 [some (.float 0), some (.ref 0), some (.ref 52), some (.int (nI i))] [.int ((an_give A (r.2.2 ((nI i + 1).toNatClampNeg)) (r.2.2 ((nI i + 2).toNatClampNeg)) (r.2.2 ((nI i + 3).toNatClampNeg))).1), .int ((an_give A (r.2.2 ((nI i + 1).toNatClampNeg)) (r.2.2 ((nI i + 2).toNatClampNeg)) (r.2.2 ((nI i + 3).toNatClampNeg))).1)] (hp_SH ++ (dy ++ dy1), g2, r2) [] rfl trivial rfl rfl (fun _ => ?_) (fun q => False.elim (q rfl))
  exact K _ _ (dy ++ dy1) g2 r2 _ (by omega) (by omega) hr2 (by rw [List.length_append]; omega) (CI_md hI1 (fun k j h => nr_cong (hf2 k j h))) hM2 (SN_give hSI hI.1.2.1 _ _ _)
theorem lwc_given {dy : List mm_Sh} {g : Nat → Nat → Int32} {r : (Nat → Nat → Int64) × Nat × (Nat → Int32)} {A : sA} (hI : CI dy (nr_ g) A) (hM : MI (nr_ g) A) (hSI : SI A) (hdy : dy.length ≤ 3000) {nc ns : Nat} (hnc : nc + 4 ≤ 600000) (hns : ns + 483 ≤ 7302250) {i : Nat} (hi : i + 6 ≤ r.2.1) (hL : r.2.1 ≤ 3072) (K : ∀ (nc' ns' : Nat) (dy' : List mm_Sh) (g' : Nat → Nat → Int32) (r' : (Nat → Nat → Int64) × Nat × (Nat → Int32)) (A' : sA), nc' ≤ nc + 4 → ns' ≤ ns + 483 → r'.2 = r.2 → dy'.length ≤ dy.length + 4 → CI dy' (nr_ g') A' → MI (nr_ g') A' → SI A' → LW nc' ns' (1206, LV i, [], (hp_SH ++ dy', g', r'))) : LW nc ns (367, LV i, [], (hp_SH ++ dy, g, r)) := by
  have h1 : vp_in (nI i + 1) r.2.1 := by rw [show nI i + 1 = nI (i + 1) from nI_add i 1]; exact nI_vi (by omega) (by omega)
  have h2 : vp_in (nI i + 2) r.2.1 := by rw [show nI i + 2 = nI (i + 2) from nI_add i 2]; exact nI_vi (by omega) (by omega)
  refine mm_B ok_La_law_3 37 11 (378, [some (.float 0), some (.ref 0), some (.ref 52), some (.int (nI i))], [.int (r.2.2 (((nI i) + 2).toNatClampNeg)), .int (r.2.2 (((nI i) + 1).toNatClampNeg)), .ref 0], (hp_SH ++ dy, g, r)) [vp_in ((nI i) + 1) r.2.1, vp_in ((nI i) + 2) r.2.1] rfl (show (vp_in ((nI i) + 1) r.2.1) ∧ (vp_in ((nI i) + 2) r.2.1) from ⟨h1, h2⟩) ?_
  refine mm_cV (as := [.int (r.2.2 (((nI i) + 1).toNatClampNeg)), .int (r.2.2 (((nI i) + 2).toNatClampNeg))]) (st := []) (q := 0) cw_Sc_given lk_La_35 in_Sc_given sl_Sc_given rfl rfl (mm_at ok_La_law_3 (i := 48) rfl).1 (cc_given dy g r hI hSI (r.2.2 ((nI i + 1).toNatClampNeg)) (r.2.2 ((nI i + 2).toNatClampNeg))) (by decide) ⟨by omega, by omega⟩ (Nat.le_of_ble_eq_true rfl) (mm_vs_b (b := 77) rfl (hp_len _)) (fun v h' hqq => ?_)
  obtain ⟨rfl, dy1, g1, r1, hqe, hr1, hd1, hI1, hf1⟩ := hqq
  obtain ⟨l1, s1⟩ := r1
  have hs1 : s1 = r.2 := hr1
  subst hs1
  rw [hqe]
  have hM1 : MI (nr_ g1) A := MI_cl hM (fun k j h1 h2 => nr_cong (hf1 k j h1 h2))
  refine mm_B ok_La_law_3 49 1 (382, [some (.float 0), some (.ref 0), some (.ref 52), some (.int (nI i))], [.ref 52, .int (an_given A (r.2.2 ((nI i + 1).toNatClampNeg)) (r.2.2 ((nI i + 2).toNatClampNeg)))], (hp_SH ++ (dy ++ dy1), g1, (l1, r.2))) [] rfl trivial ?_
  refine mm_B ok_La_law_4 0 10 (392, [some (.float 0), some (.ref 0), some (.ref 52), some (.int (nI i))], [.int ((l1, r.2).2.2 (((nI i) + 2).toNatClampNeg)), .int ((l1, r.2).2.2 (((nI i) + 1).toNatClampNeg)), .ref 52, .int (an_given A (r.2.2 ((nI i + 1).toNatClampNeg)) (r.2.2 ((nI i + 2).toNatClampNeg)))], (hp_SH ++ (dy ++ dy1), g1, (l1, r.2))) [vp_in ((nI i) + 1) (l1, r.2).2.1, vp_in ((nI i) + 2) (l1, r.2).2.1] rfl (show (vp_in ((nI i) + 1) (l1, r.2).2.1) ∧ (vp_in ((nI i) + 2) (l1, r.2).2.1) from ⟨h1, h2⟩) ?_
  refine mm_cV (as := [.int ((l1, r.2).2.2 (((nI i) + 1).toNatClampNeg)), .int ((l1, r.2).2.2 (((nI i) + 2).toNatClampNeg))]) (st := [.int (an_given A (r.2.2 ((nI i + 1).toNatClampNeg)) (r.2.2 ((nI i + 2).toNatClampNeg)))]) (q := 52) cw_Mo_given lk_La_38 in_Mo_given sl_Mo_given rfl rfl (mm_at ok_La_law_4 (i := 10) rfl).1 (cm_given (dy ++ dy1) g1 (l1, r.2) hM1 hSI (r.2.2 ((nI i + 1).toNatClampNeg)) (r.2.2 ((nI i + 2).toNatClampNeg))) (by decide) ⟨by omega, by omega⟩ (Nat.le_of_ble_eq_true rfl) (mm_vs_b (b := 77) rfl (hp_len _)) (fun v h' hqq => ?_)
  obtain ⟨rfl, g2, r2, hqe2, hr2, hM2, hf2⟩ := hqq
  rw [hqe2]
  refine mm_I ok_La_law_4 11 0 395 [some (.float 0), some (.ref 0), some (.ref 52), some (.int (nI i))] [.int (an_given A (r.2.2 ((nI i + 1).toNatClampNeg)) (r.2.2 ((nI i + 2).toNatClampNeg))), .int (an_given A (r.2.2 ((nI i + 1).toNatClampNeg)) (r.2.2 ((nI i + 2).toNatClampNeg)))] (hp_SH ++ (dy ++ dy1), g2, r2) [] rfl trivial rfl rfl (fun _ => ?_) (fun q => False.elim (q rfl))
  exact K _ _ (dy ++ dy1) g2 r2 _ (by omega) (by omega) hr2 (by rw [List.length_append]; omega) (CI_md hI1 (fun k j h => nr_cong (hf2 k j h))) hM2 (hSI)
theorem lwc_feed {dy : List mm_Sh} {g : Nat → Nat → Int32} {r : (Nat → Nat → Int64) × Nat × (Nat → Int32)} {A : sA} (hI : CI dy (nr_ g) A) (hM : MI (nr_ g) A) (hSI : SI A) (hdy : dy.length ≤ 3000) {nc ns : Nat} (hnc : nc + 4 ≤ 600000) (hns : ns + 483 ≤ 7302250) {i : Nat} (hi : i + 6 ≤ r.2.1) (hL : r.2.1 ≤ 3072) (K : ∀ (nc' ns' : Nat) (dy' : List mm_Sh) (g' : Nat → Nat → Int32) (r' : (Nat → Nat → Int64) × Nat × (Nat → Int32)) (A' : sA), nc' ≤ nc + 4 → ns' ≤ ns + 483 → r'.2 = r.2 → dy'.length ≤ dy.length + 4 → CI dy' (nr_ g') A' → MI (nr_ g') A' → SI A' → LW nc' ns' (1206, LV i, [], (hp_SH ++ dy', g', r'))) : LW nc ns (400, LV i, [], (hp_SH ++ dy, g, r)) := by
  have h1 : vp_in (nI i + 1) r.2.1 := by rw [show nI i + 1 = nI (i + 1) from nI_add i 1]; exact nI_vi (by omega) (by omega)
  refine mm_B ok_La_law_4 14 6 (406, [some (.float 0), some (.ref 0), some (.ref 52), some (.int (nI i))], [.int (r.2.2 (((nI i) + 1).toNatClampNeg)), .ref 0], (hp_SH ++ dy, g, r)) [vp_in ((nI i) + 1) r.2.1] rfl (show vp_in ((nI i) + 1) r.2.1 from h1) ?_
  refine mm_cV (as := [.int (r.2.2 (((nI i) + 1).toNatClampNeg))]) (st := []) (q := 0) cw_Sc_feed lk_La_39 in_Sc_feed sl_Sc_feed rfl rfl (mm_at ok_La_law_4 (i := 20) rfl).1 (cc_feed dy g r hI hSI (r.2.2 ((nI i + 1).toNatClampNeg))) (by decide) ⟨by omega, by omega⟩ (Nat.le_of_ble_eq_true rfl) (mm_vs_b (b := 77) rfl (hp_len _)) (fun v h' hqq => ?_)
  obtain ⟨rfl, dy1, g1, r1, hqe, hr1, hd1, hI1, hf1⟩ := hqq
  obtain ⟨l1, s1⟩ := r1
  have hs1 : s1 = r.2 := hr1
  subst hs1
  rw [hqe]
  have hM1 : MI (nr_ g1) A := MI_cl hM (fun k j h1 h2 => nr_cong (hf1 k j h1 h2))
  refine mm_B ok_La_law_4 21 6 (415, [some (.float 0), some (.ref 0), some (.ref 52), some (.int (nI i))], [.int ((l1, r.2).2.2 (((nI i) + 1).toNatClampNeg)), .ref 52, .int ((an_feed A (r.2.2 ((nI i + 1).toNatClampNeg))).1)], (hp_SH ++ (dy ++ dy1), g1, (l1, r.2))) [vp_in ((nI i) + 1) (l1, r.2).2.1] rfl (show vp_in ((nI i) + 1) (l1, r.2).2.1 from h1) ?_
  refine mm_cV (as := [.int ((l1, r.2).2.2 (((nI i) + 1).toNatClampNeg))]) (st := [.int ((an_feed A (r.2.2 ((nI i + 1).toNatClampNeg))).1)]) (q := 52) cw_Mo_feed lk_La_43 in_Mo_feed sl_Mo_feed rfl rfl (mm_at ok_La_law_4 (i := 27) rfl).1 (cm_feed (dy ++ dy1) g1 (l1, r.2) hM1 hSI (r.2.2 ((nI i + 1).toNatClampNeg))) (by decide) ⟨by omega, by omega⟩ (Nat.le_of_ble_eq_true rfl) (mm_vs_b (b := 77) rfl (hp_len _)) (fun v h' hqq => ?_)
  obtain ⟨rfl, g2, r2, hqe2, hr2, hM2, hf2⟩ := hqq
  rw [hqe2]
  refine mm_I ok_La_law_4 28 0 418 [some (.float 0), some (.ref 0), some (.ref 52), some (.int (nI i))] [.int ((an_feed A (r.2.2 ((nI i + 1).toNatClampNeg))).1), .int ((an_feed A (r.2.2 ((nI i + 1).toNatClampNeg))).1)] (hp_SH ++ (dy ++ dy1), g2, r2) [] rfl trivial rfl rfl (fun _ => ?_) (fun q => False.elim (q rfl))
  exact K _ _ (dy ++ dy1) g2 r2 _ (by omega) (by omega) hr2 (by rw [List.length_append]; omega) (CI_md hI1 (fun k j h => nr_cong (hf2 k j h))) hM2 (SN_feed hSI _)
theorem lwc_text {dy : List mm_Sh} {g : Nat → Nat → Int32} {r : (Nat → Nat → Int64) × Nat × (Nat → Int32)} {A : sA} (hI : CI dy (nr_ g) A) (hM : MI (nr_ g) A) (hSI : SI A) (hdy : dy.length ≤ 3000) {nc ns : Nat} (hnc : nc + 4 ≤ 600000) (hns : ns + 483 ≤ 7302250) {i : Nat} (hi : i + 6 ≤ r.2.1) (hL : r.2.1 ≤ 3072) (K : ∀ (nc' ns' : Nat) (dy' : List mm_Sh) (g' : Nat → Nat → Int32) (r' : (Nat → Nat → Int64) × Nat × (Nat → Int32)) (A' : sA), nc' ≤ nc + 4 → ns' ≤ ns + 483 → r'.2 = r.2 → dy'.length ≤ dy.length + 4 → CI dy' (nr_ g') A' → MI (nr_ g') A' → SI A' → LW nc' ns' (1206, LV i, [], (hp_SH ++ dy', g', r'))) : LW nc ns (423, LV i, [], (hp_SH ++ dy, g, r)) := by
  refine mm_B ok_La_law_4 31 1 (424, [some (.float 0), some (.ref 0), some (.ref 52), some (.int (nI i))], [.ref 0], (hp_SH ++ dy, g, r)) [] rfl trivial ?_
  refine mm_cV (as := []) (st := []) (q := 0) cw_Sc_text lk_La_44 in_Sc_text sl_Sc_text rfl rfl (mm_at ok_La_law_4 (i := 32) rfl).1 (cc_text dy g r hI hSI (by omega)) (by decide) ⟨by omega, by omega⟩ (Nat.le_of_ble_eq_true rfl) (mm_vs_b (b := 77) rfl (hp_len _)) (fun v h' hqq => ?_)
  obtain ⟨rfl, dy1, g1, r1, hqe, hr1, hd1, hI1, hf1⟩ := hqq
  obtain ⟨l1, s1⟩ := r1
  have hs1 : s1 = r.2 := hr1
  subst hs1
  rw [hqe]
  have hM1 : MI (nr_ g1) A := MI_cl hM (fun k j h1 h2 => nr_cong (hf1 k j h1 h2))
  refine mm_B ok_La_law_4 33 1 (428, [some (.float 0), some (.ref 0), some (.ref 52), some (.int (nI i))], [.ref 52, .int ((an_text A).1)], (hp_SH ++ (dy ++ dy1), g1, (l1, r.2))) [] rfl trivial ?_
  refine mm_cV (as := []) (st := [.int ((an_text A).1)]) (q := 52) cw_Mo_text lk_La_48 in_Mo_text sl_Mo_text rfl rfl (mm_at ok_La_law_4 (i := 34) rfl).1 (cm_text (dy ++ dy1) g1 (l1, r.2) hM1 hSI) (by decide) ⟨by omega, by omega⟩ (Nat.le_of_ble_eq_true rfl) (mm_vs_b (b := 77) rfl (hp_len _)) (fun v h' hqq => ?_)
  obtain ⟨rfl, g2, r2, hqe2, hr2, hM2, hf2⟩ := hqq
  rw [hqe2]
  refine mm_I ok_La_law_4 35 0 431 [some (.float 0), some (.ref 0), some (.ref 52), some (.int (nI i))] [.int ((an_text A).1), .int ((an_text A).1)] (hp_SH ++ (dy ++ dy1), g2, r2) [] rfl trivial rfl rfl (fun _ => ?_) (fun q => False.elim (q rfl))
  exact K _ _ (dy ++ dy1) g2 r2 _ (by omega) (by omega) hr2 (by rw [List.length_append]; omega) (CI_md hI1 (fun k j h => nr_cong (hf2 k j h))) hM2 (SN_text hSI)
theorem lwc_force {dy : List mm_Sh} {g : Nat → Nat → Int32} {r : (Nat → Nat → Int64) × Nat × (Nat → Int32)} {A : sA} (hI : CI dy (nr_ g) A) (hM : MI (nr_ g) A) (hSI : SI A) (hdy : dy.length ≤ 3000) {nc ns : Nat} (hnc : nc + 4 ≤ 600000) (hns : ns + 483 ≤ 7302250) {i : Nat} (hi : i + 6 ≤ r.2.1) (hL : r.2.1 ≤ 3072) (K : ∀ (nc' ns' : Nat) (dy' : List mm_Sh) (g' : Nat → Nat → Int32) (r' : (Nat → Nat → Int64) × Nat × (Nat → Int32)) (A' : sA), nc' ≤ nc + 4 → ns' ≤ ns + 483 → r'.2 = r.2 → dy'.length ≤ dy.length + 4 → CI dy' (nr_ g') A' → MI (nr_ g') A' → SI A' → LW nc' ns' (1206, LV i, [], (hp_SH ++ dy', g', r'))) : LW nc ns (436, LV i, [], (hp_SH ++ dy, g, r)) := by
  have h1 : vp_in (nI i + 1) r.2.1 := by rw [show nI i + 1 = nI (i + 1) from nI_add i 1]; exact nI_vi (by omega) (by omega)
  refine mm_B ok_La_law_4 38 6 (442, [some (.float 0), some (.ref 0), some (.ref 52), some (.int (nI i))], [.int (r.2.2 (((nI i) + 1).toNatClampNeg)), .ref 0], (hp_SH ++ dy, g, r)) [vp_in ((nI i) + 1) r.2.1] rfl (show vp_in ((nI i) + 1) r.2.1 from h1) ?_
  refine mm_cV (as := [.int (r.2.2 (((nI i) + 1).toNatClampNeg))]) (st := []) (q := 0) cw_Sc_force lk_La_49 in_Sc_force sl_Sc_force rfl rfl (mm_at ok_La_law_4 (i := 44) rfl).1 (cc_force dy g r hI hSI (r.2.2 ((nI i + 1).toNatClampNeg))) (by decide) ⟨by omega, by omega⟩ (Nat.le_of_ble_eq_true rfl) (mm_vs_b (b := 77) rfl (hp_len _)) (fun v h' hqq => ?_)
  obtain ⟨rfl, dy1, g1, r1, hqe, hr1, hd1, hI1, hf1⟩ := hqq
  obtain ⟨l1, s1⟩ := r1
  have hs1 : s1 = r.2 := hr1
  subst hs1
  rw [hqe]
  have hM1 : MI (nr_ g1) A := MI_cl hM (fun k j h1 h2 => nr_cong (hf1 k j h1 h2))
  refine mm_B ok_La_law_4 45 5 (450, [some (.float 0), some (.ref 0), some (.ref 52), some (.int (nI i))], [.int ((nI i) + 1), .float 0, .ref 52, .int ((an_force A (r.2.2 ((nI i + 1).toNatClampNeg))).1)], (hp_SH ++ (dy ++ dy1), g1, (l1, r.2))) [] rfl trivial ?_
  refine mm_B ok_La_law_5 0 1 (451, [some (.float 0), some (.ref 0), some (.ref 52), some (.int (nI i))], [.int ((l1, r.2).2.2 (((nI i) + 1).toNatClampNeg)), .ref 52, .int ((an_force A (r.2.2 ((nI i + 1).toNatClampNeg))).1)], (hp_SH ++ (dy ++ dy1), g1, (l1, r.2))) [vp_in ((nI i) + 1) (l1, r.2).2.1] rfl (show vp_in ((nI i) + 1) (l1, r.2).2.1 from h1) ?_
  refine mm_cV (as := [.int ((l1, r.2).2.2 (((nI i) + 1).toNatClampNeg))]) (st := [.int ((an_force A (r.2.2 ((nI i + 1).toNatClampNeg))).1)]) (q := 52) cw_Mo_force lk_La_52 in_Mo_force sl_Mo_force rfl rfl (mm_at ok_La_law_5 (i := 1) rfl).1 (cm_force (dy ++ dy1) g1 (l1, r.2) hM1 hSI (r.2.2 ((nI i + 1).toNatClampNeg))) (by decide) ⟨by omega, by omega⟩ (Nat.le_of_ble_eq_true rfl) (mm_vs_b (b := 77) rfl (hp_len _)) (fun v h' hqq => ?_)
  obtain ⟨rfl, g2, r2, hqe2, hr2, hM2, hf2⟩ := hqq
  rw [hqe2]
  refine mm_I ok_La_law_5 2 0 454 [some (.float 0), some (.ref 0), some (.ref 52), some (.int (nI i))] [.int ((an_force A (r.2.2 ((nI i + 1).toNatClampNeg))).1), .int ((an_force A (r.2.2 ((nI i + 1).toNatClampNeg))).1)] (hp_SH ++ (dy ++ dy1), g2, r2) [] rfl trivial rfl rfl (fun _ => ?_) (fun q => False.elim (q rfl))
  exact K _ _ (dy ++ dy1) g2 r2 _ (by omega) (by omega) hr2 (by rw [List.length_append]; omega) (CI_md hI1 (fun k j h => nr_cong (hf2 k j h))) hM2 (SN_force hSI _)
theorem lwc_has {dy : List mm_Sh} {g : Nat → Nat → Int32} {r : (Nat → Nat → Int64) × Nat × (Nat → Int32)} {A : sA} (hI : CI dy (nr_ g) A) (hM : MI (nr_ g) A) (hSI : SI A) (hdy : dy.length ≤ 3000) {nc ns : Nat} (hnc : nc + 4 ≤ 600000) (hns : ns + 483 ≤ 7302250) {i : Nat} (hi : i + 6 ≤ r.2.1) (hL : r.2.1 ≤ 3072) (K : ∀ (nc' ns' : Nat) (dy' : List mm_Sh) (g' : Nat → Nat → Int32) (r' : (Nat → Nat → Int64) × Nat × (Nat → Int32)) (A' : sA), nc' ≤ nc + 4 → ns' ≤ ns + 483 → r'.2 = r.2 → dy'.length ≤ dy.length + 4 → CI dy' (nr_ g') A' → MI (nr_ g') A' → SI A' → LW nc' ns' (1206, LV i, [], (hp_SH ++ dy', g', r'))) : LW nc ns (459, LV i, [], (hp_SH ++ dy, g, r)) := by
  have h1 : vp_in (nI i + 1) r.2.1 := by rw [show nI i + 1 = nI (i + 1) from nI_add i 1]; exact nI_vi (by omega) (by omega)
  have h2 : vp_in (nI i + 2) r.2.1 := by rw [show nI i + 2 = nI (i + 2) from nI_add i 2]; exact nI_vi (by omega) (by omega)
  refine mm_B ok_La_law_5 5 11 (470, [some (.float 0), some (.ref 0), some (.ref 52), some (.int (nI i))], [.int (r.2.2 (((nI i) + 2).toNatClampNeg)), .int (r.2.2 (((nI i) + 1).toNatClampNeg)), .ref 0], (hp_SH ++ dy, g, r)) [vp_in ((nI i) + 1) r.2.1, vp_in ((nI i) + 2) r.2.1] rfl (show (vp_in ((nI i) + 1) r.2.1) ∧ (vp_in ((nI i) + 2) r.2.1) from ⟨h1, h2⟩) ?_
  refine mm_cV (as := [.int (r.2.2 (((nI i) + 1).toNatClampNeg)), .int (r.2.2 (((nI i) + 2).toNatClampNeg))]) (st := []) (q := 0) cw_Sc_has lk_La_53 in_Sc_has sl_Sc_has rfl rfl (mm_at ok_La_law_5 (i := 16) rfl).1 (cc_has dy g r hI hSI (r.2.2 ((nI i + 1).toNatClampNeg)) (r.2.2 ((nI i + 2).toNatClampNeg))) (by decide) ⟨by omega, by omega⟩ (Nat.le_of_ble_eq_true rfl) (mm_vs_b (b := 77) rfl (hp_len _)) (fun v h' hqq => ?_)
  obtain ⟨rfl, dy1, g1, r1, hqe, hr1, hd1, hI1, hf1⟩ := hqq
  obtain ⟨l1, s1⟩ := r1
  have hs1 : s1 = r.2 := hr1
  subst hs1
  rw [hqe]
  have hM1 : MI (nr_ g1) A := MI_cl hM (fun k j h1 h2 => nr_cong (hf1 k j h1 h2))
  refine mm_B ok_La_law_5 17 11 (484, [some (.float 0), some (.ref 0), some (.ref 52), some (.int (nI i))], [.int ((l1, r.2).2.2 (((nI i) + 2).toNatClampNeg)), .int ((l1, r.2).2.2 (((nI i) + 1).toNatClampNeg)), .ref 52, .int (an_has A (r.2.2 ((nI i + 1).toNatClampNeg)) (r.2.2 ((nI i + 2).toNatClampNeg)))], (hp_SH ++ (dy ++ dy1), g1, (l1, r.2))) [vp_in ((nI i) + 1) (l1, r.2).2.1, vp_in ((nI i) + 2) (l1, r.2).2.1] rfl (show (vp_in ((nI i) + 1) (l1, r.2).2.1) ∧ (vp_in ((nI i) + 2) (l1, r.2).2.1) from ⟨h1, h2⟩) ?_
  refine mm_cV (as := [.int ((l1, r.2).2.2 (((nI i) + 1).toNatClampNeg)), .int ((l1, r.2).2.2 (((nI i) + 2).toNatClampNeg))]) (st := [.int (an_has A (r.2.2 ((nI i + 1).toNatClampNeg)) (r.2.2 ((nI i + 2).toNatClampNeg)))]) (q := 52) cw_Mo_has lk_La_56 in_Mo_has sl_Mo_has rfl rfl (mm_at ok_La_law_5 (i := 28) rfl).1 (cm_has (dy ++ dy1) g1 (l1, r.2) hM1 hSI (r.2.2 ((nI i + 1).toNatClampNeg)) (r.2.2 ((nI i + 2).toNatClampNeg))) (by decide) ⟨by omega, by omega⟩ (Nat.le_of_ble_eq_true rfl) (mm_vs_b (b := 77) rfl (hp_len _)) (fun v h' hqq => ?_)
  obtain ⟨rfl, g2, r2, hqe2, hr2, hM2, hf2⟩ := hqq
  rw [hqe2]
  refine mm_I ok_La_law_5 29 0 487 [some (.float 0), some (.ref 0), some (.ref 52), some (.int (nI i))] [.int (an_has A (r.2.2 ((nI i + 1).toNatClampNeg)) (r.2.2 ((nI i + 2).toNatClampNeg))), .int (an_has A (r.2.2 ((nI i + 1).toNatClampNeg)) (r.2.2 ((nI i + 2).toNatClampNeg)))] (hp_SH ++ (dy ++ dy1), g2, r2) [] rfl trivial rfl rfl (fun _ => ?_) (fun q => False.elim (q rfl))
  exact K _ _ (dy ++ dy1) g2 r2 _ (by omega) (by omega) hr2 (by rw [List.length_append]; omega) (CI_md hI1 (fun k j h => nr_cong (hf2 k j h))) hM2 (hSI)
theorem lwc_heard {dy : List mm_Sh} {g : Nat → Nat → Int32} {r : (Nat → Nat → Int64) × Nat × (Nat → Int32)} {A : sA} (hI : CI dy (nr_ g) A) (hM : MI (nr_ g) A) (hSI : SI A) (hdy : dy.length ≤ 3000) {nc ns : Nat} (hnc : nc + 4 ≤ 600000) (hns : ns + 483 ≤ 7302250) {i : Nat} (hi : i + 6 ≤ r.2.1) (hL : r.2.1 ≤ 3072) (K : ∀ (nc' ns' : Nat) (dy' : List mm_Sh) (g' : Nat → Nat → Int32) (r' : (Nat → Nat → Int64) × Nat × (Nat → Int32)) (A' : sA), nc' ≤ nc + 4 → ns' ≤ ns + 483 → r'.2 = r.2 → dy'.length ≤ dy.length + 4 → CI dy' (nr_ g') A' → MI (nr_ g') A' → SI A' → LW nc' ns' (1206, LV i, [], (hp_SH ++ dy', g', r'))) : LW nc ns (492, LV i, [], (hp_SH ++ dy, g, r)) := by
  have h1 : vp_in (nI i + 1) r.2.1 := by rw [show nI i + 1 = nI (i + 1) from nI_add i 1]; exact nI_vi (by omega) (by omega)
  have h2 : vp_in (nI i + 2) r.2.1 := by rw [show nI i + 2 = nI (i + 2) from nI_add i 2]; exact nI_vi (by omega) (by omega)
  have h3 : vp_in (nI i + 3) r.2.1 := by rw [show nI i + 3 = nI (i + 3) from nI_add i 3]; exact nI_vi (by omega) (by omega)
  refine mm_B ok_La_law_5 32 16 (508, [some (.float 0), some (.ref 0), some (.ref 52), some (.int (nI i))], [.int (r.2.2 (((nI i) + 3).toNatClampNeg)), .int (r.2.2 (((nI i) + 2).toNatClampNeg)), .int (r.2.2 (((nI i) + 1).toNatClampNeg)), .ref 0], (hp_SH ++ dy, g, r)) [vp_in ((nI i) + 1) r.2.1, vp_in ((nI i) + 2) r.2.1, vp_in ((nI i) + 3) r.2.1] rfl (show (vp_in ((nI i) + 1) r.2.1) ∧ (vp_in ((nI i) + 2) r.2.1) ∧ (vp_in ((nI i) + 3) r.2.1) from ⟨h1, h2, h3⟩) ?_
  refine mm_cV (as := [.int (r.2.2 (((nI i) + 1).toNatClampNeg)), .int (r.2.2 (((nI i) + 2).toNatClampNeg)), .int (r.2.2 (((nI i) + 3).toNatClampNeg))]) (st := []) (q := 0) cw_Sc_heard lk_La_57 in_Sc_heard sl_Sc_heard rfl rfl (mm_at ok_La_law_5 (i := 48) rfl).1 (cc_heard dy g r hI hSI (r.2.2 ((nI i + 1).toNatClampNeg)) (r.2.2 ((nI i + 2).toNatClampNeg)) (r.2.2 ((nI i + 3).toNatClampNeg))) (by decide) ⟨by omega, by omega⟩ (Nat.le_of_ble_eq_true rfl) (mm_vs_b (b := 77) rfl (hp_len _)) (fun v h' hqq => ?_)
  obtain ⟨rfl, dy1, g1, r1, hqe, hr1, hd1, hI1, hf1⟩ := hqq
  obtain ⟨l1, s1⟩ := r1
  have hs1 : s1 = r.2 := hr1
  subst hs1
  rw [hqe]
  have hM1 : MI (nr_ g1) A := MI_cl hM (fun k j h1 h2 => nr_cong (hf1 k j h1 h2))
  refine mm_B ok_La_law_5 49 1 (512, [some (.float 0), some (.ref 0), some (.ref 52), some (.int (nI i))], [.ref 52, .int (an_heard A (r.2.2 ((nI i + 1).toNatClampNeg)) (r.2.2 ((nI i + 2).toNatClampNeg)) (r.2.2 ((nI i + 3).toNatClampNeg)))], (hp_SH ++ (dy ++ dy1), g1, (l1, r.2))) [] rfl trivial ?_
  refine mm_B ok_La_law_6 0 15 (527, [some (.float 0), some (.ref 0), some (.ref 52), some (.int (nI i))], [.int ((l1, r.2).2.2 (((nI i) + 3).toNatClampNeg)), .int ((l1, r.2).2.2 (((nI i) + 2).toNatClampNeg)), .int ((l1, r.2).2.2 (((nI i) + 1).toNatClampNeg)), .ref 52, .int (an_heard A (r.2.2 ((nI i + 1).toNatClampNeg)) (r.2.2 ((nI i + 2).toNatClampNeg)) (r.2.2 ((nI i + 3).toNatClampNeg)))], (hp_SH ++ (dy ++ dy1), g1, (l1, r.2))) [vp_in ((nI i) + 1) (l1, r.2).2.1, vp_in ((nI i) + 2) (l1, r.2).2.1, vp_in ((nI i) + 3) (l1, r.2).2.1] rfl (show (vp_in ((nI i) + 1) (l1, r.2).2.1) ∧ (vp_in ((nI i) + 2) (l1, r.2).2.1) ∧ (vp_in ((nI i) + 3) (l1, r.2).2.1) from ⟨h1, h2, h3⟩) ?_
  refine mm_cV (as := [.int ((l1, r.2).2.2 (((nI i) + 1).toNatClampNeg)), .int ((l1, r.2).2.2 (((nI i) + 2).toNatClampNeg)), .int ((l1, r.2).2.2 (((nI i) + 3).toNatClampNeg))]) (st := [.int (an_heard A (r.2.2 ((nI i + 1).toNatClampNeg)) (r.2.2 ((nI i + 2).toNatClampNeg)) (r.2.2 ((nI i + 3).toNatClampNeg)))]) (q := 52) cw_Mo_heard lk_La_60 in_Mo_heard sl_Mo_heard rfl rfl (mm_at ok_La_law_6 (i := 15) rfl).1 (cm_heard (dy ++ dy1) g1 (l1, r.2) hM1 hSI (r.2.2 ((nI i + 1).toNatClampNeg)) (r.2.2 ((nI i + 2).toNatClampNeg)) (r.2.2 ((nI i + 3).toNatClampNeg))) (by decide) ⟨by omega, by omega⟩ (Nat.le_of_ble_eq_true rfl) (mm_vs_b (b := 77) rfl (hp_len _)) (fun v h' hqq => ?_)
  obtain ⟨rfl, g2, r2, hqe2, hr2, hM2, hf2⟩ := hqq
  rw [hqe2]
  refine mm_I ok_La_law_6 16 0 530 [some (.float 0), some (.ref 0), some (.ref 52), some (.int (nI i))] [.int (an_heard A (r.2.2 ((nI i + 1).toNatClampNeg)) (r.2.2 ((nI i + 2).toNatClampNeg)) (r.2.2 ((nI i + 3).toNatClampNeg))), .int (an_heard A (r.2.2 ((nI i + 1).toNatClampNeg)) (r.2.2 ((nI i + 2).toNatClampNeg)) (r.2.2 ((nI i + 3).toNatClampNeg)))] (hp_SH ++ (dy ++ dy1), g2, r2) [] rfl trivial rfl rfl (fun _ => ?_) (fun q => False.elim (q rfl))
  exact K _ _ (dy ++ dy1) g2 r2 _ (by omega) (by omega) hr2 (by rw [List.length_append]; omega) (CI_md hI1 (fun k j h => nr_cong (hf2 k j h))) hM2 (hSI)
theorem lwc_points {dy : List mm_Sh} {g : Nat → Nat → Int32} {r : (Nat → Nat → Int64) × Nat × (Nat → Int32)} {A : sA} (hI : CI dy (nr_ g) A) (hM : MI (nr_ g) A) (hSI : SI A) (hdy : dy.length ≤ 3000) {nc ns : Nat} (hnc : nc + 4 ≤ 600000) (hns : ns + 483 ≤ 7302250) {i : Nat} (hi : i + 6 ≤ r.2.1) (hL : r.2.1 ≤ 3072) (K : ∀ (nc' ns' : Nat) (dy' : List mm_Sh) (g' : Nat → Nat → Int32) (r' : (Nat → Nat → Int64) × Nat × (Nat → Int32)) (A' : sA), nc' ≤ nc + 4 → ns' ≤ ns + 483 → r'.2 = r.2 → dy'.length ≤ dy.length + 4 → CI dy' (nr_ g') A' → MI (nr_ g') A' → SI A' → LW nc' ns' (1206, LV i, [], (hp_SH ++ dy', g', r'))) : LW nc ns (535, LV i, [], (hp_SH ++ dy, g, r)) := by
  have h1 : vp_in (nI i + 1) r.2.1 := by rw [show nI i + 1 = nI (i + 1) from nI_add i 1]; exact nI_vi (by omega) (by omega)
  refine mm_B ok_La_law_6 19 6 (541, [some (.float 0), some (.ref 0), some (.ref 52), some (.int (nI i))], [.int (r.2.2 (((nI i) + 1).toNatClampNeg)), .ref 0], (hp_SH ++ dy, g, r)) [vp_in ((nI i) + 1) r.2.1] rfl (show vp_in ((nI i) + 1) r.2.1 from h1) ?_
  refine mm_cV (as := [.int (r.2.2 (((nI i) + 1).toNatClampNeg))]) (st := []) (q := 0) cw_Sc_points lk_La_61 in_Sc_points sl_Sc_points rfl rfl (mm_at ok_La_law_6 (i := 25) rfl).1 (cc_points dy g r hI hSI (r.2.2 ((nI i + 1).toNatClampNeg))) (by decide) ⟨by omega, by omega⟩ (Nat.le_of_ble_eq_true rfl) (mm_vs_b (b := 77) rfl (hp_len _)) (fun v h' hqq => ?_)
  obtain ⟨rfl, dy1, g1, r1, hqe, hr1, hd1, hI1, hf1⟩ := hqq
  obtain ⟨l1, s1⟩ := r1
  have hs1 : s1 = r.2 := hr1
  subst hs1
  rw [hqe]
  have hM1 : MI (nr_ g1) A := MI_cl hM (fun k j h1 h2 => nr_cong (hf1 k j h1 h2))
  refine mm_B ok_La_law_6 26 6 (550, [some (.float 0), some (.ref 0), some (.ref 52), some (.int (nI i))], [.int ((l1, r.2).2.2 (((nI i) + 1).toNatClampNeg)), .ref 52, .int (an_points A (r.2.2 ((nI i + 1).toNatClampNeg)))], (hp_SH ++ (dy ++ dy1), g1, (l1, r.2))) [vp_in ((nI i) + 1) (l1, r.2).2.1] rfl (show vp_in ((nI i) + 1) (l1, r.2).2.1 from h1) ?_
  refine mm_cV (as := [.int ((l1, r.2).2.2 (((nI i) + 1).toNatClampNeg))]) (st := [.int (an_points A (r.2.2 ((nI i + 1).toNatClampNeg)))]) (q := 52) cw_Mo_points lk_La_64 in_Mo_points sl_Mo_points rfl rfl (mm_at ok_La_law_6 (i := 32) rfl).1 (cm_points (dy ++ dy1) g1 (l1, r.2) hM1 hSI (r.2.2 ((nI i + 1).toNatClampNeg))) (by decide) ⟨by omega, by omega⟩ (Nat.le_of_ble_eq_true rfl) (mm_vs_b (b := 77) rfl (hp_len _)) (fun v h' hqq => ?_)
  obtain ⟨rfl, g2, r2, hqe2, hr2, hM2, hf2⟩ := hqq
  rw [hqe2]
  refine mm_I ok_La_law_6 33 0 553 [some (.float 0), some (.ref 0), some (.ref 52), some (.int (nI i))] [.int (an_points A (r.2.2 ((nI i + 1).toNatClampNeg))), .int (an_points A (r.2.2 ((nI i + 1).toNatClampNeg)))] (hp_SH ++ (dy ++ dy1), g2, r2) [] rfl trivial rfl rfl (fun _ => ?_) (fun q => False.elim (q rfl))
  exact K _ _ (dy ++ dy1) g2 r2 _ (by omega) (by omega) hr2 (by rw [List.length_append]; omega) (CI_md hI1 (fun k j h => nr_cong (hf2 k j h))) hM2 (hSI)
theorem lwc_best {dy : List mm_Sh} {g : Nat → Nat → Int32} {r : (Nat → Nat → Int64) × Nat × (Nat → Int32)} {A : sA} (hI : CI dy (nr_ g) A) (hM : MI (nr_ g) A) (hSI : SI A) (hdy : dy.length ≤ 3000) {nc ns : Nat} (hnc : nc + 4 ≤ 600000) (hns : ns + 483 ≤ 7302250) {i : Nat} (hi : i + 6 ≤ r.2.1) (hL : r.2.1 ≤ 3072) (K : ∀ (nc' ns' : Nat) (dy' : List mm_Sh) (g' : Nat → Nat → Int32) (r' : (Nat → Nat → Int64) × Nat × (Nat → Int32)) (A' : sA), nc' ≤ nc + 4 → ns' ≤ ns + 483 → r'.2 = r.2 → dy'.length ≤ dy.length + 4 → CI dy' (nr_ g') A' → MI (nr_ g') A' → SI A' → LW nc' ns' (1206, LV i, [], (hp_SH ++ dy', g', r'))) : LW nc ns (558, LV i, [], (hp_SH ++ dy, g, r)) := by
  have h1 : vp_in (nI i + 1) r.2.1 := by rw [show nI i + 1 = nI (i + 1) from nI_add i 1]; exact nI_vi (by omega) (by omega)
  refine mm_B ok_La_law_6 36 6 (564, [some (.float 0), some (.ref 0), some (.ref 52), some (.int (nI i))], [.int (r.2.2 (((nI i) + 1).toNatClampNeg)), .ref 0], (hp_SH ++ dy, g, r)) [vp_in ((nI i) + 1) r.2.1] rfl (show vp_in ((nI i) + 1) r.2.1 from h1) ?_
  refine mm_cV (as := [.int (r.2.2 (((nI i) + 1).toNatClampNeg))]) (st := []) (q := 0) cw_Sc_best lk_La_65 in_Sc_best sl_Sc_best rfl rfl (mm_at ok_La_law_6 (i := 42) rfl).1 (cc_best dy g r hI hSI (r.2.2 ((nI i + 1).toNatClampNeg))) (by decide) ⟨by omega, by omega⟩ (Nat.le_of_ble_eq_true rfl) (mm_vs_b (b := 77) rfl (hp_len _)) (fun v h' hqq => ?_)
  obtain ⟨rfl, dy1, g1, r1, hqe, hr1, hd1, hI1, hf1⟩ := hqq
  obtain ⟨l1, s1⟩ := r1
  have hs1 : s1 = r.2 := hr1
  subst hs1
  rw [hqe]
  have hM1 : MI (nr_ g1) A := MI_cl hM (fun k j h1 h2 => nr_cong (hf1 k j h1 h2))
  refine mm_B ok_La_law_6 43 6 (573, [some (.float 0), some (.ref 0), some (.ref 52), some (.int (nI i))], [.int ((l1, r.2).2.2 (((nI i) + 1).toNatClampNeg)), .ref 52, .int (an_best A (r.2.2 ((nI i + 1).toNatClampNeg)))], (hp_SH ++ (dy ++ dy1), g1, (l1, r.2))) [vp_in ((nI i) + 1) (l1, r.2).2.1] rfl (show vp_in ((nI i) + 1) (l1, r.2).2.1 from h1) ?_
  refine mm_cV (as := [.int ((l1, r.2).2.2 (((nI i) + 1).toNatClampNeg))]) (st := [.int (an_best A (r.2.2 ((nI i + 1).toNatClampNeg)))]) (q := 52) cw_Mo_best lk_La_68 in_Mo_best sl_Mo_best rfl rfl (mm_at ok_La_law_6 (i := 49) rfl).1 (cm_best (dy ++ dy1) g1 (l1, r.2) hM1 hSI (r.2.2 ((nI i + 1).toNatClampNeg))) (by decide) ⟨by omega, by omega⟩ (Nat.le_of_ble_eq_true rfl) (mm_vs_b (b := 77) rfl (hp_len _)) (fun v h' hqq => ?_)
  obtain ⟨rfl, g2, r2, hqe2, hr2, hM2, hf2⟩ := hqq
  rw [hqe2]
  refine mm_I ok_La_law_7 0 0 576 [some (.float 0), some (.ref 0), some (.ref 52), some (.int (nI i))] [.int (an_best A (r.2.2 ((nI i + 1).toNatClampNeg))), .int (an_best A (r.2.2 ((nI i + 1).toNatClampNeg)))] (hp_SH ++ (dy ++ dy1), g2, r2) [] rfl trivial rfl rfl (fun _ => ?_) (fun q => False.elim (q rfl))
  exact K _ _ (dy ++ dy1) g2 r2 _ (by omega) (by omega) hr2 (by rw [List.length_append]; omega) (CI_md hI1 (fun k j h => nr_cong (hf2 k j h))) hM2 (hSI)
theorem lwc_lay {dy : List mm_Sh} {g : Nat → Nat → Int32} {r : (Nat → Nat → Int64) × Nat × (Nat → Int32)} {A : sA} (hI : CI dy (nr_ g) A) (hM : MI (nr_ g) A) (hSI : SI A) (hdy : dy.length ≤ 3000) {nc ns : Nat} (hnc : nc + 4 ≤ 600000) (hns : ns + 483 ≤ 7302250) {i : Nat} (hi : i + 6 ≤ r.2.1) (hL : r.2.1 ≤ 3072) (K : ∀ (nc' ns' : Nat) (dy' : List mm_Sh) (g' : Nat → Nat → Int32) (r' : (Nat → Nat → Int64) × Nat × (Nat → Int32)) (A' : sA), nc' ≤ nc + 4 → ns' ≤ ns + 483 → r'.2 = r.2 → dy'.length ≤ dy.length + 4 → CI dy' (nr_ g') A' → MI (nr_ g') A' → SI A' → LW nc' ns' (1206, LV i, [], (hp_SH ++ dy', g', r'))) : LW nc ns (581, LV i, [], (hp_SH ++ dy, g, r)) := by
  refine mm_B ok_La_law_7 3 1 (582, [some (.float 0), some (.ref 0), some (.ref 52), some (.int (nI i))], [.ref 0], (hp_SH ++ dy, g, r)) [] rfl trivial ?_
  refine mm_cV (as := []) (st := []) (q := 0) cw_Sc_lay lk_La_69 in_Sc_lay sl_Sc_lay rfl rfl (mm_at ok_La_law_7 (i := 4) rfl).1 (cc_lay dy g r hI hSI) (by decide) ⟨by omega, by omega⟩ (Nat.le_of_ble_eq_true rfl) (mm_vs_b (b := 77) rfl (hp_len _)) (fun v h' hqq => ?_)
  obtain ⟨rfl, dy1, g1, r1, hqe, hr1, hd1, hI1, hf1⟩ := hqq
  obtain ⟨l1, s1⟩ := r1
  have hs1 : s1 = r.2 := hr1
  subst hs1
  rw [hqe]
  have hM1 : MI (nr_ g1) A := MI_cl hM (fun k j h1 h2 => nr_cong (hf1 k j h1 h2))
  refine mm_B ok_La_law_7 5 1 (586, [some (.float 0), some (.ref 0), some (.ref 52), some (.int (nI i))], [.ref 52, .int ((an_lay A).1)], (hp_SH ++ (dy ++ dy1), g1, (l1, r.2))) [] rfl trivial ?_
  refine mm_cV (as := []) (st := [.int ((an_lay A).1)]) (q := 52) cw_Mo_lay lk_La_72 in_Mo_lay sl_Mo_lay rfl rfl (mm_at ok_La_law_7 (i := 6) rfl).1 (cm_lay (dy ++ dy1) g1 (l1, r.2) hM1 hSI) (by decide) ⟨by omega, by omega⟩ (Nat.le_of_ble_eq_true rfl) (mm_vs_b (b := 77) rfl (hp_len _)) (fun v h' hqq => ?_)
  obtain ⟨rfl, g2, r2, hqe2, hr2, hM2, hf2⟩ := hqq
  rw [hqe2]
  refine mm_I ok_La_law_7 7 0 589 [some (.float 0), some (.ref 0), some (.ref 52), some (.int (nI i))] [.int ((an_lay A).1), .int ((an_lay A).1)] (hp_SH ++ (dy ++ dy1), g2, r2) [] rfl trivial rfl rfl (fun _ => ?_) (fun q => False.elim (q rfl))
  exact K _ _ (dy ++ dy1) g2 r2 _ (by omega) (by omega) hr2 (by rw [List.length_append]; omega) (CI_md hI1 (fun k j h => nr_cong (hf2 k j h))) hM2 (SI_lay hSI)
theorem lwc_run {dy : List mm_Sh} {g : Nat → Nat → Int32} {r : (Nat → Nat → Int64) × Nat × (Nat → Int32)} {A : sA} (hI : CI dy (nr_ g) A) (hM : MI (nr_ g) A) (hSI : SI A) (hdy : dy.length ≤ 3000) {nc ns : Nat} (hnc : nc + 4 ≤ 600000) (hns : ns + 483 ≤ 7302250) {i : Nat} (hi : i + 6 ≤ r.2.1) (hL : r.2.1 ≤ 3072) (K : ∀ (nc' ns' : Nat) (dy' : List mm_Sh) (g' : Nat → Nat → Int32) (r' : (Nat → Nat → Int64) × Nat × (Nat → Int32)) (A' : sA), nc' ≤ nc + 4 → ns' ≤ ns + 483 → r'.2 = r.2 → dy'.length ≤ dy.length + 4 → CI dy' (nr_ g') A' → MI (nr_ g') A' → SI A' → LW nc' ns' (1206, LV i, [], (hp_SH ++ dy', g', r'))) : LW nc ns (594, LV i, [], (hp_SH ++ dy, g, r)) := by
  have h1 : vp_in (nI i + 1) r.2.1 := by rw [show nI i + 1 = nI (i + 1) from nI_add i 1]; exact nI_vi (by omega) (by omega)
  have h2 : vp_in (nI i + 2) r.2.1 := by rw [show nI i + 2 = nI (i + 2) from nI_add i 2]; exact nI_vi (by omega) (by omega)
  have h3 : vp_in (nI i + 3) r.2.1 := by rw [show nI i + 3 = nI (i + 3) from nI_add i 3]; exact nI_vi (by omega) (by omega)
  refine mm_B ok_La_law_7 10 16 (610, [some (.float 0), some (.ref 0), some (.ref 52), some (.int (nI i))], [.int (r.2.2 (((nI i) + 3).toNatClampNeg)), .int (r.2.2 (((nI i) + 2).toNatClampNeg)), .int (r.2.2 (((nI i) + 1).toNatClampNeg)), .ref 0], (hp_SH ++ dy, g, r)) [vp_in ((nI i) + 1) r.2.1, vp_in ((nI i) + 2) r.2.1, vp_in ((nI i) + 3) r.2.1] rfl (show (vp_in ((nI i) + 1) r.2.1) ∧ (vp_in ((nI i) + 2) r.2.1) ∧ (vp_in ((nI i) + 3) r.2.1) from ⟨h1, h2, h3⟩) ?_
  refine mm_cV (as := [.int (r.2.2 (((nI i) + 1).toNatClampNeg)), .int (r.2.2 (((nI i) + 2).toNatClampNeg)), .int (r.2.2 (((nI i) + 3).toNatClampNeg))]) (st := []) (q := 0) cw_Sc_run lk_La_73 in_Sc_run sl_Sc_run rfl rfl (mm_at ok_La_law_7 (i := 26) rfl).1 (cc_run dy g r hI hSI (r.2.2 ((nI i + 1).toNatClampNeg)) (r.2.2 ((nI i + 2).toNatClampNeg)) (r.2.2 ((nI i + 3).toNatClampNeg))) (by decide) ⟨by omega, by omega⟩ (Nat.le_of_ble_eq_true rfl) (mm_vs_b (b := 77) rfl (hp_len _)) (fun v h' hqq => ?_)
  obtain ⟨rfl, dy1, g1, r1, hqe, hr1, hd1, hI1, hf1⟩ := hqq
  obtain ⟨l1, s1⟩ := r1
  have hs1 : s1 = r.2 := hr1
  subst hs1
  rw [hqe]
  have hM1 : MI (nr_ g1) A := MI_cl hM (fun k j h1 h2 => nr_cong (hf1 k j h1 h2))
  refine mm_B ok_La_law_7 27 16 (629, [some (.float 0), some (.ref 0), some (.ref 52), some (.int (nI i))], [.int ((l1, r.2).2.2 (((nI i) + 3).toNatClampNeg)), .int ((l1, r.2).2.2 (((nI i) + 2).toNatClampNeg)), .int ((l1, r.2).2.2 (((nI i) + 1).toNatClampNeg)), .ref 52, .int (an_run A (r.2.2 ((nI i + 1).toNatClampNeg)) (r.2.2 ((nI i + 2).toNatClampNeg)) (r.2.2 ((nI i + 3).toNatClampNeg)))], (hp_SH ++ (dy ++ dy1), g1, (l1, r.2))) [vp_in ((nI i) + 1) (l1, r.2).2.1, vp_in ((nI i) + 2) (l1, r.2).2.1, vp_in ((nI i) + 3) (l1, r.2).2.1] rfl (show (vp_in ((nI i) + 1) (l1, r.2).2.1) ∧ (vp_in ((nI i) + 2) (l1, r.2).2.1) ∧ (vp_in ((nI i) + 3) (l1, r.2).2.1) from ⟨h1, h2, h3⟩) ?_
  refine mm_cV (as := [.int ((l1, r.2).2.2 (((nI i) + 1).toNatClampNeg)), .int ((l1, r.2).2.2 (((nI i) + 2).toNatClampNeg)), .int ((l1, r.2).2.2 (((nI i) + 3).toNatClampNeg))]) (st := [.int (an_run A (r.2.2 ((nI i + 1).toNatClampNeg)) (r.2.2 ((nI i + 2).toNatClampNeg)) (r.2.2 ((nI i + 3).toNatClampNeg)))]) (q := 52) cw_Mo_run lk_La_76 in_Mo_run sl_Mo_run rfl rfl (mm_at ok_La_law_7 (i := 43) rfl).1 (cm_run (dy ++ dy1) g1 (l1, r.2) hM1 hSI (r.2.2 ((nI i + 1).toNatClampNeg)) (r.2.2 ((nI i + 2).toNatClampNeg)) (r.2.2 ((nI i + 3).toNatClampNeg))) (by decide) ⟨by omega, by omega⟩ (Nat.le_of_ble_eq_true rfl) (mm_vs_b (b := 77) rfl (hp_len _)) (fun v h' hqq => ?_)
  obtain ⟨rfl, g2, r2, hqe2, hr2, hM2, hf2⟩ := hqq
  rw [hqe2]
  refine mm_I ok_La_law_7 44 0 632 [some (.float 0), some (.ref 0), some (.ref 52), some (.int (nI i))] [.int (an_run A (r.2.2 ((nI i + 1).toNatClampNeg)) (r.2.2 ((nI i + 2).toNatClampNeg)) (r.2.2 ((nI i + 3).toNatClampNeg))), .int (an_run A (r.2.2 ((nI i + 1).toNatClampNeg)) (r.2.2 ((nI i + 2).toNatClampNeg)) (r.2.2 ((nI i + 3).toNatClampNeg)))] (hp_SH ++ (dy ++ dy1), g2, r2) [] rfl trivial rfl rfl (fun _ => ?_) (fun q => False.elim (q rfl))
  exact K _ _ (dy ++ dy1) g2 r2 _ (by omega) (by omega) hr2 (by rw [List.length_append]; omega) (CI_md hI1 (fun k j h => nr_cong (hf2 k j h))) hM2 (hSI)
theorem lwc_twice {dy : List mm_Sh} {g : Nat → Nat → Int32} {r : (Nat → Nat → Int64) × Nat × (Nat → Int32)} {A : sA} (hI : CI dy (nr_ g) A) (hM : MI (nr_ g) A) (hSI : SI A) (hdy : dy.length ≤ 3000) {nc ns : Nat} (hnc : nc + 4 ≤ 600000) (hns : ns + 483 ≤ 7302250) {i : Nat} (hi : i + 6 ≤ r.2.1) (hL : r.2.1 ≤ 3072) (K : ∀ (nc' ns' : Nat) (dy' : List mm_Sh) (g' : Nat → Nat → Int32) (r' : (Nat → Nat → Int64) × Nat × (Nat → Int32)) (A' : sA), nc' ≤ nc + 4 → ns' ≤ ns + 483 → r'.2 = r.2 → dy'.length ≤ dy.length + 4 → CI dy' (nr_ g') A' → MI (nr_ g') A' → SI A' → LW nc' ns' (1206, LV i, [], (hp_SH ++ dy', g', r'))) : LW nc ns (637, LV i, [], (hp_SH ++ dy, g, r)) := by
  have h1 : vp_in (nI i + 1) r.2.1 := by rw [show nI i + 1 = nI (i + 1) from nI_add i 1]; exact nI_vi (by omega) (by omega)
  have h2 : vp_in (nI i + 2) r.2.1 := by rw [show nI i + 2 = nI (i + 2) from nI_add i 2]; exact nI_vi (by omega) (by omega)
  refine mm_B ok_La_law_7 47 3 (640, [some (.float 0), some (.ref 0), some (.ref 52), some (.int (nI i))], [.int (nI i), .float 0, .ref 0], (hp_SH ++ dy, g, r)) [] rfl trivial ?_
  refine mm_B ok_La_law_8 0 8 (648, [some (.float 0), some (.ref 0), some (.ref 52), some (.int (nI i))], [.int (r.2.2 (((nI i) + 2).toNatClampNeg)), .int (r.2.2 (((nI i) + 1).toNatClampNeg)), .ref 0], (hp_SH ++ dy, g, r)) [vp_in ((nI i) + 1) r.2.1, vp_in ((nI i) + 2) r.2.1] rfl (show (vp_in ((nI i) + 1) r.2.1) ∧ (vp_in ((nI i) + 2) r.2.1) from ⟨h1, h2⟩) ?_
  refine mm_cV (as := [.int (r.2.2 (((nI i) + 1).toNatClampNeg)), .int (r.2.2 (((nI i) + 2).toNatClampNeg))]) (st := []) (q := 0) cw_Sc_twice lk_La_77 in_Sc_twice sl_Sc_twice rfl rfl (mm_at ok_La_law_8 (i := 8) rfl).1 (cc_twice dy g r hI hSI (r.2.2 ((nI i + 1).toNatClampNeg)) (r.2.2 ((nI i + 2).toNatClampNeg))) (by decide) ⟨by omega, by omega⟩ (Nat.le_of_ble_eq_true rfl) (mm_vs_b (b := 77) rfl (hp_len _)) (fun v h' hqq => ?_)
  obtain ⟨rfl, dy1, g1, r1, hqe, hr1, hd1, hI1, hf1⟩ := hqq
  obtain ⟨l1, s1⟩ := r1
  have hs1 : s1 = r.2 := hr1
  subst hs1
  rw [hqe]
  have hM1 : MI (nr_ g1) A := MI_cl hM (fun k j h1 h2 => nr_cong (hf1 k j h1 h2))
  refine mm_B ok_La_law_8 9 11 (662, [some (.float 0), some (.ref 0), some (.ref 52), some (.int (nI i))], [.int ((l1, r.2).2.2 (((nI i) + 2).toNatClampNeg)), .int ((l1, r.2).2.2 (((nI i) + 1).toNatClampNeg)), .ref 52, .int (an_twice A (r.2.2 ((nI i + 1).toNatClampNeg)) (r.2.2 ((nI i + 2).toNatClampNeg)))], (hp_SH ++ (dy ++ dy1), g1, (l1, r.2))) [vp_in ((nI i) + 1) (l1, r.2).2.1, vp_in ((nI i) + 2) (l1, r.2).2.1] rfl (show (vp_in ((nI i) + 1) (l1, r.2).2.1) ∧ (vp_in ((nI i) + 2) (l1, r.2).2.1) from ⟨h1, h2⟩) ?_
  refine mm_cV (as := [.int ((l1, r.2).2.2 (((nI i) + 1).toNatClampNeg)), .int ((l1, r.2).2.2 (((nI i) + 2).toNatClampNeg))]) (st := [.int (an_twice A (r.2.2 ((nI i + 1).toNatClampNeg)) (r.2.2 ((nI i + 2).toNatClampNeg)))]) (q := 52) cw_Mo_twice lk_La_80 in_Mo_twice sl_Mo_twice rfl rfl (mm_at ok_La_law_8 (i := 20) rfl).1 (cm_twice (dy ++ dy1) g1 (l1, r.2) hM1 hSI (r.2.2 ((nI i + 1).toNatClampNeg)) (r.2.2 ((nI i + 2).toNatClampNeg))) (by decide) ⟨by omega, by omega⟩ (Nat.le_of_ble_eq_true rfl) (mm_vs_b (b := 77) rfl (hp_len _)) (fun v h' hqq => ?_)
  obtain ⟨rfl, g2, r2, hqe2, hr2, hM2, hf2⟩ := hqq
  rw [hqe2]
  refine mm_I ok_La_law_8 21 0 665 [some (.float 0), some (.ref 0), some (.ref 52), some (.int (nI i))] [.int (an_twice A (r.2.2 ((nI i + 1).toNatClampNeg)) (r.2.2 ((nI i + 2).toNatClampNeg))), .int (an_twice A (r.2.2 ((nI i + 1).toNatClampNeg)) (r.2.2 ((nI i + 2).toNatClampNeg)))] (hp_SH ++ (dy ++ dy1), g2, r2) [] rfl trivial rfl rfl (fun _ => ?_) (fun q => False.elim (q rfl))
  exact K _ _ (dy ++ dy1) g2 r2 _ (by omega) (by omega) hr2 (by rw [List.length_append]; omega) (CI_md hI1 (fun k j h => nr_cong (hf2 k j h))) hM2 (hSI)
theorem lwc_change {dy : List mm_Sh} {g : Nat → Nat → Int32} {r : (Nat → Nat → Int64) × Nat × (Nat → Int32)} {A : sA} (hI : CI dy (nr_ g) A) (hM : MI (nr_ g) A) (hSI : SI A) (hdy : dy.length ≤ 3000) {nc ns : Nat} (hnc : nc + 4 ≤ 600000) (hns : ns + 483 ≤ 7302250) {i : Nat} (hi : i + 6 ≤ r.2.1) (hL : r.2.1 ≤ 3072) (K : ∀ (nc' ns' : Nat) (dy' : List mm_Sh) (g' : Nat → Nat → Int32) (r' : (Nat → Nat → Int64) × Nat × (Nat → Int32)) (A' : sA), nc' ≤ nc + 4 → ns' ≤ ns + 483 → r'.2 = r.2 → dy'.length ≤ dy.length + 4 → CI dy' (nr_ g') A' → MI (nr_ g') A' → SI A' → LW nc' ns' (1206, LV i, [], (hp_SH ++ dy', g', r'))) : LW nc ns (670, LV i, [], (hp_SH ++ dy, g, r)) := by
  have h1 : vp_in (nI i + 1) r.2.1 := by rw [show nI i + 1 = nI (i + 1) from nI_add i 1]; exact nI_vi (by omega) (by omega)
  have h2 : vp_in (nI i + 2) r.2.1 := by rw [show nI i + 2 = nI (i + 2) from nI_add i 2]; exact nI_vi (by omega) (by omega)
  refine mm_B ok_La_law_8 24 11 (681, [some (.float 0), some (.ref 0), some (.ref 52), some (.int (nI i))], [.int (r.2.2 (((nI i) + 2).toNatClampNeg)), .int (r.2.2 (((nI i) + 1).toNatClampNeg)), .ref 0], (hp_SH ++ dy, g, r)) [vp_in ((nI i) + 1) r.2.1, vp_in ((nI i) + 2) r.2.1] rfl (show (vp_in ((nI i) + 1) r.2.1) ∧ (vp_in ((nI i) + 2) r.2.1) from ⟨h1, h2⟩) ?_
  refine mm_cV (as := [.int (r.2.2 (((nI i) + 1).toNatClampNeg)), .int (r.2.2 (((nI i) + 2).toNatClampNeg))]) (st := []) (q := 0) cw_Sc_change lk_La_81 in_Sc_change sl_Sc_change rfl rfl (mm_at ok_La_law_8 (i := 35) rfl).1 (cc_change dy g r hI hSI (r.2.2 ((nI i + 1).toNatClampNeg)) (r.2.2 ((nI i + 2).toNatClampNeg))) (by decide) ⟨by omega, by omega⟩ (Nat.le_of_ble_eq_true rfl) (mm_vs_b (b := 77) rfl (hp_len _)) (fun v h' hqq => ?_)
  obtain ⟨rfl, dy1, g1, r1, hqe, hr1, hd1, hI1, hf1⟩ := hqq
  obtain ⟨l1, s1⟩ := r1
  have hs1 : s1 = r.2 := hr1
  subst hs1
  rw [hqe]
  have hM1 : MI (nr_ g1) A := MI_cl hM (fun k j h1 h2 => nr_cong (hf1 k j h1 h2))
  refine mm_B ok_La_law_8 36 11 (695, [some (.float 0), some (.ref 0), some (.ref 52), some (.int (nI i))], [.int ((l1, r.2).2.2 (((nI i) + 2).toNatClampNeg)), .int ((l1, r.2).2.2 (((nI i) + 1).toNatClampNeg)), .ref 52, .int (an_change A (r.2.2 ((nI i + 1).toNatClampNeg)) (r.2.2 ((nI i + 2).toNatClampNeg)))], (hp_SH ++ (dy ++ dy1), g1, (l1, r.2))) [vp_in ((nI i) + 1) (l1, r.2).2.1, vp_in ((nI i) + 2) (l1, r.2).2.1] rfl (show (vp_in ((nI i) + 1) (l1, r.2).2.1) ∧ (vp_in ((nI i) + 2) (l1, r.2).2.1) from ⟨h1, h2⟩) ?_
  refine mm_cV (as := [.int ((l1, r.2).2.2 (((nI i) + 1).toNatClampNeg)), .int ((l1, r.2).2.2 (((nI i) + 2).toNatClampNeg))]) (st := [.int (an_change A (r.2.2 ((nI i + 1).toNatClampNeg)) (r.2.2 ((nI i + 2).toNatClampNeg)))]) (q := 52) cw_Mo_change lk_La_84 in_Mo_change sl_Mo_change rfl rfl (mm_at ok_La_law_8 (i := 47) rfl).1 (cm_change (dy ++ dy1) g1 (l1, r.2) hM1 hSI (r.2.2 ((nI i + 1).toNatClampNeg)) (r.2.2 ((nI i + 2).toNatClampNeg))) (by decide) ⟨by omega, by omega⟩ (Nat.le_of_ble_eq_true rfl) (mm_vs_b (b := 77) rfl (hp_len _)) (fun v h' hqq => ?_)
  obtain ⟨rfl, g2, r2, hqe2, hr2, hM2, hf2⟩ := hqq
  rw [hqe2]
  refine mm_I ok_La_law_8 48 0 698 [some (.float 0), some (.ref 0), some (.ref 52), some (.int (nI i))] [.int (an_change A (r.2.2 ((nI i + 1).toNatClampNeg)) (r.2.2 ((nI i + 2).toNatClampNeg))), .int (an_change A (r.2.2 ((nI i + 1).toNatClampNeg)) (r.2.2 ((nI i + 2).toNatClampNeg)))] (hp_SH ++ (dy ++ dy1), g2, r2) [] rfl trivial rfl rfl (fun _ => ?_) (fun q => False.elim (q rfl))
  exact K _ _ (dy ++ dy1) g2 r2 _ (by omega) (by omega) hr2 (by rw [List.length_append]; omega) (CI_md hI1 (fun k j h => nr_cong (hf2 k j h))) hM2 (hSI)
theorem lwc_exam {dy : List mm_Sh} {g : Nat → Nat → Int32} {r : (Nat → Nat → Int64) × Nat × (Nat → Int32)} {A : sA} (hI : CI dy (nr_ g) A) (hM : MI (nr_ g) A) (hSI : SI A) (hdy : dy.length ≤ 3000) {nc ns : Nat} (hnc : nc + 4 ≤ 600000) (hns : ns + 483 ≤ 7302250) {i : Nat} (hi : i + 6 ≤ r.2.1) (hL : r.2.1 ≤ 3072) (K : ∀ (nc' ns' : Nat) (dy' : List mm_Sh) (g' : Nat → Nat → Int32) (r' : (Nat → Nat → Int64) × Nat × (Nat → Int32)) (A' : sA), nc' ≤ nc + 4 → ns' ≤ ns + 483 → r'.2 = r.2 → dy'.length ≤ dy.length + 4 → CI dy' (nr_ g') A' → MI (nr_ g') A' → SI A' → LW nc' ns' (1206, LV i, [], (hp_SH ++ dy', g', r'))) : LW nc ns (703, LV i, [], (hp_SH ++ dy, g, r)) := by
  have h1 : vp_in (nI i + 1) r.2.1 := by rw [show nI i + 1 = nI (i + 1) from nI_add i 1]; exact nI_vi (by omega) (by omega)
  have h2 : vp_in (nI i + 2) r.2.1 := by rw [show nI i + 2 = nI (i + 2) from nI_add i 2]; exact nI_vi (by omega) (by omega)
  refine mm_B ok_La_law_9 1 11 (714, [some (.float 0), some (.ref 0), some (.ref 52), some (.int (nI i))], [.int (r.2.2 (((nI i) + 2).toNatClampNeg)), .int (r.2.2 (((nI i) + 1).toNatClampNeg)), .ref 0], (hp_SH ++ dy, g, r)) [vp_in ((nI i) + 1) r.2.1, vp_in ((nI i) + 2) r.2.1] rfl (show (vp_in ((nI i) + 1) r.2.1) ∧ (vp_in ((nI i) + 2) r.2.1) from ⟨h1, h2⟩) ?_
  refine mm_cV (as := [.int (r.2.2 (((nI i) + 1).toNatClampNeg)), .int (r.2.2 (((nI i) + 2).toNatClampNeg))]) (st := []) (q := 0) cw_Sc_exam lk_La_85 in_Sc_exam sl_Sc_exam rfl rfl (mm_at ok_La_law_9 (i := 12) rfl).1 (cc_exam dy g r hI hSI (r.2.2 ((nI i + 1).toNatClampNeg)) (r.2.2 ((nI i + 2).toNatClampNeg))) (by decide) ⟨by omega, by omega⟩ (Nat.le_of_ble_eq_true rfl) (mm_vs_b (b := 77) rfl (hp_len _)) (fun v h' hqq => ?_)
  obtain ⟨rfl, dy1, g1, r1, hqe, hr1, hd1, hI1, hf1⟩ := hqq
  obtain ⟨l1, s1⟩ := r1
  have hs1 : s1 = r.2 := hr1
  subst hs1
  rw [hqe]
  have hM1 : MI (nr_ g1) A := MI_cl hM (fun k j h1 h2 => nr_cong (hf1 k j h1 h2))
  refine mm_B ok_La_law_9 13 11 (728, [some (.float 0), some (.ref 0), some (.ref 52), some (.int (nI i))], [.int ((l1, r.2).2.2 (((nI i) + 2).toNatClampNeg)), .int ((l1, r.2).2.2 (((nI i) + 1).toNatClampNeg)), .ref 52, .int (an_exam A (r.2.2 ((nI i + 1).toNatClampNeg)) (r.2.2 ((nI i + 2).toNatClampNeg)))], (hp_SH ++ (dy ++ dy1), g1, (l1, r.2))) [vp_in ((nI i) + 1) (l1, r.2).2.1, vp_in ((nI i) + 2) (l1, r.2).2.1] rfl (show (vp_in ((nI i) + 1) (l1, r.2).2.1) ∧ (vp_in ((nI i) + 2) (l1, r.2).2.1) from ⟨h1, h2⟩) ?_
  refine mm_cV (as := [.int ((l1, r.2).2.2 (((nI i) + 1).toNatClampNeg)), .int ((l1, r.2).2.2 (((nI i) + 2).toNatClampNeg))]) (st := [.int (an_exam A (r.2.2 ((nI i + 1).toNatClampNeg)) (r.2.2 ((nI i + 2).toNatClampNeg)))]) (q := 52) cw_Mo_exam lk_La_88 in_Mo_exam sl_Mo_exam rfl rfl (mm_at ok_La_law_9 (i := 24) rfl).1 (cm_exam (dy ++ dy1) g1 (l1, r.2) hM1 hSI (r.2.2 ((nI i + 1).toNatClampNeg)) (r.2.2 ((nI i + 2).toNatClampNeg))) (by decide) ⟨by omega, by omega⟩ (Nat.le_of_ble_eq_true rfl) (mm_vs_b (b := 77) rfl (hp_len _)) (fun v h' hqq => ?_)
  obtain ⟨rfl, g2, r2, hqe2, hr2, hM2, hf2⟩ := hqq
  rw [hqe2]
  refine mm_I ok_La_law_9 25 0 731 [some (.float 0), some (.ref 0), some (.ref 52), some (.int (nI i))] [.int (an_exam A (r.2.2 ((nI i + 1).toNatClampNeg)) (r.2.2 ((nI i + 2).toNatClampNeg))), .int (an_exam A (r.2.2 ((nI i + 1).toNatClampNeg)) (r.2.2 ((nI i + 2).toNatClampNeg)))] (hp_SH ++ (dy ++ dy1), g2, r2) [] rfl trivial rfl rfl (fun _ => ?_) (fun q => False.elim (q rfl))
  exact K _ _ (dy ++ dy1) g2 r2 _ (by omega) (by omega) hr2 (by rw [List.length_append]; omega) (CI_md hI1 (fun k j h => nr_cong (hf2 k j h))) hM2 (hSI)
theorem lwc_aboard {dy : List mm_Sh} {g : Nat → Nat → Int32} {r : (Nat → Nat → Int64) × Nat × (Nat → Int32)} {A : sA} (hI : CI dy (nr_ g) A) (hM : MI (nr_ g) A) (hSI : SI A) (hdy : dy.length ≤ 3000) {nc ns : Nat} (hnc : nc + 4 ≤ 600000) (hns : ns + 483 ≤ 7302250) {i : Nat} (hi : i + 6 ≤ r.2.1) (hL : r.2.1 ≤ 3072) (K : ∀ (nc' ns' : Nat) (dy' : List mm_Sh) (g' : Nat → Nat → Int32) (r' : (Nat → Nat → Int64) × Nat × (Nat → Int32)) (A' : sA), nc' ≤ nc + 4 → ns' ≤ ns + 483 → r'.2 = r.2 → dy'.length ≤ dy.length + 4 → CI dy' (nr_ g') A' → MI (nr_ g') A' → SI A' → LW nc' ns' (1206, LV i, [], (hp_SH ++ dy', g', r'))) : LW nc ns (736, LV i, [], (hp_SH ++ dy, g, r)) := by
  have h1 : vp_in (nI i + 1) r.2.1 := by rw [show nI i + 1 = nI (i + 1) from nI_add i 1]; exact nI_vi (by omega) (by omega)
  have h2 : vp_in (nI i + 2) r.2.1 := by rw [show nI i + 2 = nI (i + 2) from nI_add i 2]; exact nI_vi (by omega) (by omega)
  have h3 : vp_in (nI i + 3) r.2.1 := by rw [show nI i + 3 = nI (i + 3) from nI_add i 3]; exact nI_vi (by omega) (by omega)
  refine mm_B ok_La_law_9 28 16 (752, [some (.float 0), some (.ref 0), some (.ref 52), some (.int (nI i))], [.int (r.2.2 (((nI i) + 3).toNatClampNeg)), .int (r.2.2 (((nI i) + 2).toNatClampNeg)), .int (r.2.2 (((nI i) + 1).toNatClampNeg)), .ref 0], (hp_SH ++ dy, g, r)) [vp_in ((nI i) + 1) r.2.1, vp_in ((nI i) + 2) r.2.1, vp_in ((nI i) + 3) r.2.1] rfl (show (vp_in ((nI i) + 1) r.2.1) ∧ (vp_in ((nI i) + 2) r.2.1) ∧ (vp_in ((nI i) + 3) r.2.1) from ⟨h1, h2, h3⟩) ?_
  refine mm_cV (as := [.int (r.2.2 (((nI i) + 1).toNatClampNeg)), .int (r.2.2 (((nI i) + 2).toNatClampNeg)), .int (r.2.2 (((nI i) + 3).toNatClampNeg))]) (st := []) (q := 0) cw_Sc_aboard lk_La_89 in_Sc_aboard sl_Sc_aboard rfl rfl (mm_at ok_La_law_9 (i := 44) rfl).1 (cc_aboard dy g r hI hSI (r.2.2 ((nI i + 1).toNatClampNeg)) (r.2.2 ((nI i + 2).toNatClampNeg)) (r.2.2 ((nI i + 3).toNatClampNeg))) (by decide) ⟨by omega, by omega⟩ (Nat.le_of_ble_eq_true rfl) (mm_vs_b (b := 77) rfl (hp_len _)) (fun v h' hqq => ?_)
  obtain ⟨rfl, dy1, g1, r1, hqe, hr1, hd1, hI1, hf1⟩ := hqq
  obtain ⟨l1, s1⟩ := r1
  have hs1 : s1 = r.2 := hr1
  subst hs1
  rw [hqe]
  have hM1 : MI (nr_ g1) A := MI_cl hM (fun k j h1 h2 => nr_cong (hf1 k j h1 h2))
  refine mm_B ok_La_law_9 45 5 (760, [some (.float 0), some (.ref 0), some (.ref 52), some (.int (nI i))], [.int ((nI i) + 1), .float 0, .ref 52, .int (an_aboard A (r.2.2 ((nI i + 1).toNatClampNeg)) (r.2.2 ((nI i + 2).toNatClampNeg)) (r.2.2 ((nI i + 3).toNatClampNeg)))], (hp_SH ++ (dy ++ dy1), g1, (l1, r.2))) [] rfl trivial ?_
  refine mm_B ok_La_law_10 0 11 (771, [some (.float 0), some (.ref 0), some (.ref 52), some (.int (nI i))], [.int ((l1, r.2).2.2 (((nI i) + 3).toNatClampNeg)), .int ((l1, r.2).2.2 (((nI i) + 2).toNatClampNeg)), .int ((l1, r.2).2.2 (((nI i) + 1).toNatClampNeg)), .ref 52, .int (an_aboard A (r.2.2 ((nI i + 1).toNatClampNeg)) (r.2.2 ((nI i + 2).toNatClampNeg)) (r.2.2 ((nI i + 3).toNatClampNeg)))], (hp_SH ++ (dy ++ dy1), g1, (l1, r.2))) [vp_in ((nI i) + 1) (l1, r.2).2.1, vp_in ((nI i) + 2) (l1, r.2).2.1, vp_in ((nI i) + 3) (l1, r.2).2.1] rfl (show (vp_in ((nI i) + 1) (l1, r.2).2.1) ∧ (vp_in ((nI i) + 2) (l1, r.2).2.1) ∧ (vp_in ((nI i) + 3) (l1, r.2).2.1) from ⟨h1, h2, h3⟩) ?_
  refine mm_cV (as := [.int ((l1, r.2).2.2 (((nI i) + 1).toNatClampNeg)), .int ((l1, r.2).2.2 (((nI i) + 2).toNatClampNeg)), .int ((l1, r.2).2.2 (((nI i) + 3).toNatClampNeg))]) (st := [.int (an_aboard A (r.2.2 ((nI i + 1).toNatClampNeg)) (r.2.2 ((nI i + 2).toNatClampNeg)) (r.2.2 ((nI i + 3).toNatClampNeg)))]) (q := 52) cw_Mo_aboard lk_La_92 in_Mo_aboard sl_Mo_aboard rfl rfl (mm_at ok_La_law_10 (i := 11) rfl).1 (cm_aboard (dy ++ dy1) g1 (l1, r.2) hM1 hSI (r.2.2 ((nI i + 1).toNatClampNeg)) (r.2.2 ((nI i + 2).toNatClampNeg)) (r.2.2 ((nI i + 3).toNatClampNeg))) (by decide) ⟨by omega, by omega⟩ (Nat.le_of_ble_eq_true rfl) (mm_vs_b (b := 77) rfl (hp_len _)) (fun v h' hqq => ?_)
  obtain ⟨rfl, g2, r2, hqe2, hr2, hM2, hf2⟩ := hqq
  rw [hqe2]
  refine mm_I ok_La_law_10 12 0 774 [some (.float 0), some (.ref 0), some (.ref 52), some (.int (nI i))] [.int (an_aboard A (r.2.2 ((nI i + 1).toNatClampNeg)) (r.2.2 ((nI i + 2).toNatClampNeg)) (r.2.2 ((nI i + 3).toNatClampNeg))), .int (an_aboard A (r.2.2 ((nI i + 1).toNatClampNeg)) (r.2.2 ((nI i + 2).toNatClampNeg)) (r.2.2 ((nI i + 3).toNatClampNeg)))] (hp_SH ++ (dy ++ dy1), g2, r2) [] rfl trivial rfl rfl (fun _ => ?_) (fun q => False.elim (q rfl))
  exact K _ _ (dy ++ dy1) g2 r2 _ (by omega) (by omega) hr2 (by rw [List.length_append]; omega) (CI_md hI1 (fun k j h => nr_cong (hf2 k j h))) hM2 (hSI)
theorem lwc_together {dy : List mm_Sh} {g : Nat → Nat → Int32} {r : (Nat → Nat → Int64) × Nat × (Nat → Int32)} {A : sA} (hI : CI dy (nr_ g) A) (hM : MI (nr_ g) A) (hSI : SI A) (hdy : dy.length ≤ 3000) {nc ns : Nat} (hnc : nc + 4 ≤ 600000) (hns : ns + 483 ≤ 7302250) {i : Nat} (hi : i + 6 ≤ r.2.1) (hL : r.2.1 ≤ 3072) (K : ∀ (nc' ns' : Nat) (dy' : List mm_Sh) (g' : Nat → Nat → Int32) (r' : (Nat → Nat → Int64) × Nat × (Nat → Int32)) (A' : sA), nc' ≤ nc + 4 → ns' ≤ ns + 483 → r'.2 = r.2 → dy'.length ≤ dy.length + 4 → CI dy' (nr_ g') A' → MI (nr_ g') A' → SI A' → LW nc' ns' (1206, LV i, [], (hp_SH ++ dy', g', r'))) : LW nc ns (779, LV i, [], (hp_SH ++ dy, g, r)) := by
  have h1 : vp_in (nI i + 1) r.2.1 := by rw [show nI i + 1 = nI (i + 1) from nI_add i 1]; exact nI_vi (by omega) (by omega)
  refine mm_B ok_La_law_10 15 6 (785, [some (.float 0), some (.ref 0), some (.ref 52), some (.int (nI i))], [.int (r.2.2 (((nI i) + 1).toNatClampNeg)), .ref 0], (hp_SH ++ dy, g, r)) [vp_in ((nI i) + 1) r.2.1] rfl (show vp_in ((nI i) + 1) r.2.1 from h1) ?_
  refine mm_cV (as := [.int (r.2.2 (((nI i) + 1).toNatClampNeg))]) (st := []) (q := 0) cw_Sc_together lk_La_93 in_Sc_together sl_Sc_together rfl rfl (mm_at ok_La_law_10 (i := 21) rfl).1 (cc_together dy g r hI hSI (r.2.2 ((nI i + 1).toNatClampNeg))) (by decide) ⟨by omega, by omega⟩ (Nat.le_of_ble_eq_true rfl) (mm_vs_b (b := 77) rfl (hp_len _)) (fun v h' hqq => ?_)
  obtain ⟨rfl, dy1, g1, r1, hqe, hr1, hd1, hI1, hf1⟩ := hqq
  obtain ⟨l1, s1⟩ := r1
  have hs1 : s1 = r.2 := hr1
  subst hs1
  rw [hqe]
  have hM1 : MI (nr_ g1) A := MI_cl hM (fun k j h1 h2 => nr_cong (hf1 k j h1 h2))
  refine mm_B ok_La_law_10 22 6 (794, [some (.float 0), some (.ref 0), some (.ref 52), some (.int (nI i))], [.int ((l1, r.2).2.2 (((nI i) + 1).toNatClampNeg)), .ref 52, .int (an_together A (r.2.2 ((nI i + 1).toNatClampNeg)))], (hp_SH ++ (dy ++ dy1), g1, (l1, r.2))) [vp_in ((nI i) + 1) (l1, r.2).2.1] rfl (show vp_in ((nI i) + 1) (l1, r.2).2.1 from h1) ?_
  refine mm_cV (as := [.int ((l1, r.2).2.2 (((nI i) + 1).toNatClampNeg))]) (st := [.int (an_together A (r.2.2 ((nI i + 1).toNatClampNeg)))]) (q := 52) cw_Mo_together lk_La_96 in_Mo_together sl_Mo_together rfl rfl (mm_at ok_La_law_10 (i := 28) rfl).1 (cm_together (dy ++ dy1) g1 (l1, r.2) hM1 hSI (r.2.2 ((nI i + 1).toNatClampNeg))) (by decide) ⟨by omega, by omega⟩ (Nat.le_of_ble_eq_true rfl) (mm_vs_b (b := 77) rfl (hp_len _)) (fun v h' hqq => ?_)
  obtain ⟨rfl, g2, r2, hqe2, hr2, hM2, hf2⟩ := hqq
  rw [hqe2]
  refine mm_I ok_La_law_10 29 0 797 [some (.float 0), some (.ref 0), some (.ref 52), some (.int (nI i))] [.int (an_together A (r.2.2 ((nI i + 1).toNatClampNeg))), .int (an_together A (r.2.2 ((nI i + 1).toNatClampNeg)))] (hp_SH ++ (dy ++ dy1), g2, r2) [] rfl trivial rfl rfl (fun _ => ?_) (fun q => False.elim (q rfl))
  exact K _ _ (dy ++ dy1) g2 r2 _ (by omega) (by omega) hr2 (by rw [List.length_append]; omega) (CI_md hI1 (fun k j h => nr_cong (hf2 k j h))) hM2 (hSI)
theorem lwc_known {dy : List mm_Sh} {g : Nat → Nat → Int32} {r : (Nat → Nat → Int64) × Nat × (Nat → Int32)} {A : sA} (hI : CI dy (nr_ g) A) (hM : MI (nr_ g) A) (hSI : SI A) (hdy : dy.length ≤ 3000) {nc ns : Nat} (hnc : nc + 4 ≤ 600000) (hns : ns + 483 ≤ 7302250) {i : Nat} (hi : i + 6 ≤ r.2.1) (hL : r.2.1 ≤ 3072) (K : ∀ (nc' ns' : Nat) (dy' : List mm_Sh) (g' : Nat → Nat → Int32) (r' : (Nat → Nat → Int64) × Nat × (Nat → Int32)) (A' : sA), nc' ≤ nc + 4 → ns' ≤ ns + 483 → r'.2 = r.2 → dy'.length ≤ dy.length + 4 → CI dy' (nr_ g') A' → MI (nr_ g') A' → SI A' → LW nc' ns' (1206, LV i, [], (hp_SH ++ dy', g', r'))) : LW nc ns (802, LV i, [], (hp_SH ++ dy, g, r)) := by
  have h1 : vp_in (nI i + 1) r.2.1 := by rw [show nI i + 1 = nI (i + 1) from nI_add i 1]; exact nI_vi (by omega) (by omega)
  refine mm_B ok_La_law_10 32 6 (808, [some (.float 0), some (.ref 0), some (.ref 52), some (.int (nI i))], [.int (r.2.2 (((nI i) + 1).toNatClampNeg)), .ref 0], (hp_SH ++ dy, g, r)) [vp_in ((nI i) + 1) r.2.1] rfl (show vp_in ((nI i) + 1) r.2.1 from h1) ?_
  refine mm_cV (as := [.int (r.2.2 (((nI i) + 1).toNatClampNeg))]) (st := []) (q := 0) cw_Sc_known lk_La_97 in_Sc_known sl_Sc_known rfl rfl (mm_at ok_La_law_10 (i := 38) rfl).1 (cc_known dy g r hI hSI (r.2.2 ((nI i + 1).toNatClampNeg))) (by decide) ⟨by omega, by omega⟩ (Nat.le_of_ble_eq_true rfl) (mm_vs_b (b := 77) rfl (hp_len _)) (fun v h' hqq => ?_)
  obtain ⟨rfl, dy1, g1, r1, hqe, hr1, hd1, hI1, hf1⟩ := hqq
  obtain ⟨l1, s1⟩ := r1
  have hs1 : s1 = r.2 := hr1
  subst hs1
  rw [hqe]
  have hM1 : MI (nr_ g1) A := MI_cl hM (fun k j h1 h2 => nr_cong (hf1 k j h1 h2))
  refine mm_B ok_La_law_10 39 6 (817, [some (.float 0), some (.ref 0), some (.ref 52), some (.int (nI i))], [.int ((l1, r.2).2.2 (((nI i) + 1).toNatClampNeg)), .ref 52, .int (an_known A (r.2.2 ((nI i + 1).toNatClampNeg)))], (hp_SH ++ (dy ++ dy1), g1, (l1, r.2))) [vp_in ((nI i) + 1) (l1, r.2).2.1] rfl (show vp_in ((nI i) + 1) (l1, r.2).2.1 from h1) ?_
  refine mm_cV (as := [.int ((l1, r.2).2.2 (((nI i) + 1).toNatClampNeg))]) (st := [.int (an_known A (r.2.2 ((nI i + 1).toNatClampNeg)))]) (q := 52) cw_Mo_known lk_La_100 in_Mo_known sl_Mo_known rfl rfl (mm_at ok_La_law_10 (i := 45) rfl).1 (cm_known (dy ++ dy1) g1 (l1, r.2) hM1 hSI (r.2.2 ((nI i + 1).toNatClampNeg))) (by decide) ⟨by omega, by omega⟩ (Nat.le_of_ble_eq_true rfl) (mm_vs_b (b := 77) rfl (hp_len _)) (fun v h' hqq => ?_)
  obtain ⟨rfl, g2, r2, hqe2, hr2, hM2, hf2⟩ := hqq
  rw [hqe2]
  refine mm_I ok_La_law_10 46 0 820 [some (.float 0), some (.ref 0), some (.ref 52), some (.int (nI i))] [.int (an_known A (r.2.2 ((nI i + 1).toNatClampNeg))), .int (an_known A (r.2.2 ((nI i + 1).toNatClampNeg)))] (hp_SH ++ (dy ++ dy1), g2, r2) [] rfl trivial rfl rfl (fun _ => ?_) (fun q => False.elim (q rfl))
  exact K _ _ (dy ++ dy1) g2 r2 _ (by omega) (by omega) hr2 (by rw [List.length_append]; omega) (CI_md hI1 (fun k j h => nr_cong (hf2 k j h))) hM2 (hSI)
theorem lwc_drawn {dy : List mm_Sh} {g : Nat → Nat → Int32} {r : (Nat → Nat → Int64) × Nat × (Nat → Int32)} {A : sA} (hI : CI dy (nr_ g) A) (hM : MI (nr_ g) A) (hSI : SI A) (hdy : dy.length ≤ 3000) {nc ns : Nat} (hnc : nc + 4 ≤ 600000) (hns : ns + 483 ≤ 7302250) {i : Nat} (hi : i + 6 ≤ r.2.1) (hL : r.2.1 ≤ 3072) (K : ∀ (nc' ns' : Nat) (dy' : List mm_Sh) (g' : Nat → Nat → Int32) (r' : (Nat → Nat → Int64) × Nat × (Nat → Int32)) (A' : sA), nc' ≤ nc + 4 → ns' ≤ ns + 483 → r'.2 = r.2 → dy'.length ≤ dy.length + 4 → CI dy' (nr_ g') A' → MI (nr_ g') A' → SI A' → LW nc' ns' (1206, LV i, [], (hp_SH ++ dy', g', r'))) : LW nc ns (825, LV i, [], (hp_SH ++ dy, g, r)) := by
  have h1 : vp_in (nI i + 1) r.2.1 := by rw [show nI i + 1 = nI (i + 1) from nI_add i 1]; exact nI_vi (by omega) (by omega)
  have h2 : vp_in (nI i + 2) r.2.1 := by rw [show nI i + 2 = nI (i + 2) from nI_add i 2]; exact nI_vi (by omega) (by omega)
  refine mm_B ok_La_law_10 49 1 (826, [some (.float 0), some (.ref 0), some (.ref 52), some (.int (nI i))], [.ref 0], (hp_SH ++ dy, g, r)) [] rfl trivial ?_
  refine mm_B ok_La_law_11 0 10 (836, [some (.float 0), some (.ref 0), some (.ref 52), some (.int (nI i))], [.int (r.2.2 (((nI i) + 2).toNatClampNeg)), .int (r.2.2 (((nI i) + 1).toNatClampNeg)), .ref 0], (hp_SH ++ dy, g, r)) [vp_in ((nI i) + 1) r.2.1, vp_in ((nI i) + 2) r.2.1] rfl (show (vp_in ((nI i) + 1) r.2.1) ∧ (vp_in ((nI i) + 2) r.2.1) from ⟨h1, h2⟩) ?_
  refine mm_cV (as := [.int (r.2.2 (((nI i) + 1).toNatClampNeg)), .int (r.2.2 (((nI i) + 2).toNatClampNeg))]) (st := []) (q := 0) cw_Sc_drawn lk_La_101 in_Sc_drawn sl_Sc_drawn rfl rfl (mm_at ok_La_law_11 (i := 10) rfl).1 (cc_drawn dy g r hI hSI (r.2.2 ((nI i + 1).toNatClampNeg)) (r.2.2 ((nI i + 2).toNatClampNeg))) (by decide) ⟨by omega, by omega⟩ (Nat.le_of_ble_eq_true rfl) (mm_vs_b (b := 77) rfl (hp_len _)) (fun v h' hqq => ?_)
  obtain ⟨rfl, dy1, g1, r1, hqe, hr1, hd1, hI1, hf1⟩ := hqq
  obtain ⟨l1, s1⟩ := r1
  have hs1 : s1 = r.2 := hr1
  subst hs1
  rw [hqe]
  have hM1 : MI (nr_ g1) A := MI_cl hM (fun k j h1 h2 => nr_cong (hf1 k j h1 h2))
  refine mm_B ok_La_law_11 11 11 (850, [some (.float 0), some (.ref 0), some (.ref 52), some (.int (nI i))], [.int ((l1, r.2).2.2 (((nI i) + 2).toNatClampNeg)), .int ((l1, r.2).2.2 (((nI i) + 1).toNatClampNeg)), .ref 52, .int (an_drawn A (r.2.2 ((nI i + 1).toNatClampNeg)) (r.2.2 ((nI i + 2).toNatClampNeg)))], (hp_SH ++ (dy ++ dy1), g1, (l1, r.2))) [vp_in ((nI i) + 1) (l1, r.2).2.1, vp_in ((nI i) + 2) (l1, r.2).2.1] rfl (show (vp_in ((nI i) + 1) (l1, r.2).2.1) ∧ (vp_in ((nI i) + 2) (l1, r.2).2.1) from ⟨h1, h2⟩) ?_
  refine mm_cV (as := [.int ((l1, r.2).2.2 (((nI i) + 1).toNatClampNeg)), .int ((l1, r.2).2.2 (((nI i) + 2).toNatClampNeg))]) (st := [.int (an_drawn A (r.2.2 ((nI i + 1).toNatClampNeg)) (r.2.2 ((nI i + 2).toNatClampNeg)))]) (q := 52) cw_Mo_drawn lk_La_104 in_Mo_drawn sl_Mo_drawn rfl rfl (mm_at ok_La_law_11 (i := 22) rfl).1 (cm_drawn (dy ++ dy1) g1 (l1, r.2) hM1 hSI (r.2.2 ((nI i + 1).toNatClampNeg)) (r.2.2 ((nI i + 2).toNatClampNeg))) (by decide) ⟨by omega, by omega⟩ (Nat.le_of_ble_eq_true rfl) (mm_vs_b (b := 77) rfl (hp_len _)) (fun v h' hqq => ?_)
  obtain ⟨rfl, g2, r2, hqe2, hr2, hM2, hf2⟩ := hqq
  rw [hqe2]
  refine mm_I ok_La_law_11 23 0 853 [some (.float 0), some (.ref 0), some (.ref 52), some (.int (nI i))] [.int (an_drawn A (r.2.2 ((nI i + 1).toNatClampNeg)) (r.2.2 ((nI i + 2).toNatClampNeg))), .int (an_drawn A (r.2.2 ((nI i + 1).toNatClampNeg)) (r.2.2 ((nI i + 2).toNatClampNeg)))] (hp_SH ++ (dy ++ dy1), g2, r2) [] rfl trivial rfl rfl (fun _ => ?_) (fun q => False.elim (q rfl))
  exact K _ _ (dy ++ dy1) g2 r2 _ (by omega) (by omega) hr2 (by rw [List.length_append]; omega) (CI_md hI1 (fun k j h => nr_cong (hf2 k j h))) hM2 (hSI)
theorem lwc_chance {dy : List mm_Sh} {g : Nat → Nat → Int32} {r : (Nat → Nat → Int64) × Nat × (Nat → Int32)} {A : sA} (hI : CI dy (nr_ g) A) (hM : MI (nr_ g) A) (hSI : SI A) (hdy : dy.length ≤ 3000) {nc ns : Nat} (hnc : nc + 4 ≤ 600000) (hns : ns + 483 ≤ 7302250) {i : Nat} (hi : i + 6 ≤ r.2.1) (hL : r.2.1 ≤ 3072) (K : ∀ (nc' ns' : Nat) (dy' : List mm_Sh) (g' : Nat → Nat → Int32) (r' : (Nat → Nat → Int64) × Nat × (Nat → Int32)) (A' : sA), nc' ≤ nc + 4 → ns' ≤ ns + 483 → r'.2 = r.2 → dy'.length ≤ dy.length + 4 → CI dy' (nr_ g') A' → MI (nr_ g') A' → SI A' → LW nc' ns' (1206, LV i, [], (hp_SH ++ dy', g', r'))) : LW nc ns (858, LV i, [], (hp_SH ++ dy, g, r)) := by
  have h1 : vp_in (nI i + 1) r.2.1 := by rw [show nI i + 1 = nI (i + 1) from nI_add i 1]; exact nI_vi (by omega) (by omega)
  have h2 : vp_in (nI i + 2) r.2.1 := by rw [show nI i + 2 = nI (i + 2) from nI_add i 2]; exact nI_vi (by omega) (by omega)
  have h3 : vp_in (nI i + 3) r.2.1 := by rw [show nI i + 3 = nI (i + 3) from nI_add i 3]; exact nI_vi (by omega) (by omega)
  have h4 : vp_in (nI i + 4) r.2.1 := by rw [show nI i + 4 = nI (i + 4) from nI_add i 4]; exact nI_vi (by omega) (by omega)
  have h5 : vp_in (nI i + 5) r.2.1 := by rw [show nI i + 5 = nI (i + 5) from nI_add i 5]; exact nI_vi (by omega) (by omega)
  refine mm_B ok_La_law_11 26 24 (882, [some (.float 0), some (.ref 0), some (.ref 52), some (.int (nI i))], [.int 5, .int (nI i), .float 0, .int (r.2.2 (((nI i) + 4).toNatClampNeg)), .int (r.2.2 (((nI i) + 3).toNatClampNeg)), .int (r.2.2 (((nI i) + 2).toNatClampNeg)), .int (r.2.2 (((nI i) + 1).toNatClampNeg)), .ref 0], (hp_SH ++ dy, g, r)) [vp_in ((nI i) + 1) r.2.1, vp_in ((nI i) + 2) r.2.1, vp_in ((nI i) + 3) r.2.1, vp_in ((nI i) + 4) r.2.1] rfl (show (vp_in ((nI i) + 1) r.2.1) ∧ (vp_in ((nI i) + 2) r.2.1) ∧ (vp_in ((nI i) + 3) r.2.1) ∧ (vp_in ((nI i) + 4) r.2.1) from ⟨h1, h2, h3, h4⟩) ?_
  refine mm_B ok_La_law_12 0 2 (884, [some (.float 0), some (.ref 0), some (.ref 52), some (.int (nI i))], [.int (r.2.2 (((nI i) + 5).toNatClampNeg)), .int (r.2.2 (((nI i) + 4).toNatClampNeg)), .int (r.2.2 (((nI i) + 3).toNatClampNeg)), .int (r.2.2 (((nI i) + 2).toNatClampNeg)), .int (r.2.2 (((nI i) + 1).toNatClampNeg)), .ref 0], (hp_SH ++ dy, g, r)) [vp_in ((nI i) + 5) r.2.1] rfl (show vp_in ((nI i) + 5) r.2.1 from h5) ?_
  refine mm_cV (as := [.int (r.2.2 (((nI i) + 1).toNatClampNeg)), .int (r.2.2 (((nI i) + 2).toNatClampNeg)), .int (r.2.2 (((nI i) + 3).toNatClampNeg)), .int (r.2.2 (((nI i) + 4).toNatClampNeg)), .int (r.2.2 (((nI i) + 5).toNatClampNeg))]) (st := []) (q := 0) cw_Sc_chance lk_La_105 in_Sc_chance sl_Sc_chance rfl rfl (mm_at ok_La_law_12 (i := 2) rfl).1 (cc_chance dy g r hI hSI (r.2.2 ((nI i + 1).toNatClampNeg)) (r.2.2 ((nI i + 2).toNatClampNeg)) (r.2.2 ((nI i + 3).toNatClampNeg)) (r.2.2 ((nI i + 4).toNatClampNeg)) (r.2.2 ((nI i + 5).toNatClampNeg))) (by decide) ⟨by omega, by omega⟩ (Nat.le_of_ble_eq_true rfl) (mm_vs_b (b := 77) rfl (hp_len _)) (fun v h' hqq => ?_)
  obtain ⟨rfl, dy1, g1, r1, hqe, hr1, hd1, hI1, hf1⟩ := hqq
  obtain ⟨l1, s1⟩ := r1
  have hs1 : s1 = r.2 := hr1
  subst hs1
  rw [hqe]
  have hM1 : MI (nr_ g1) A := MI_cl hM (fun k j h1 h2 => nr_cong (hf1 k j h1 h2))
  refine mm_B ok_La_law_12 3 26 (913, [some (.float 0), some (.ref 0), some (.ref 52), some (.int (nI i))], [.int ((l1, r.2).2.2 (((nI i) + 5).toNatClampNeg)), .int ((l1, r.2).2.2 (((nI i) + 4).toNatClampNeg)), .int ((l1, r.2).2.2 (((nI i) + 3).toNatClampNeg)), .int ((l1, r.2).2.2 (((nI i) + 2).toNatClampNeg)), .int ((l1, r.2).2.2 (((nI i) + 1).toNatClampNeg)), .ref 52, .long (an_chance A (r.2.2 ((nI i + 1).toNatClampNeg)) (r.2.2 ((nI i + 2).toNatClampNeg)) (r.2.2 ((nI i + 3).toNatClampNeg)) (r.2.2 ((nI i + 4).toNatClampNeg)) (r.2.2 ((nI i + 5).toNatClampNeg)))], (hp_SH ++ (dy ++ dy1), g1, (l1, r.2))) [vp_in ((nI i) + 1) (l1, r.2).2.1, vp_in ((nI i) + 2) (l1, r.2).2.1, vp_in ((nI i) + 3) (l1, r.2).2.1, vp_in ((nI i) + 4) (l1, r.2).2.1, vp_in ((nI i) + 5) (l1, r.2).2.1] rfl (show (vp_in ((nI i) + 1) (l1, r.2).2.1) ∧ (vp_in ((nI i) + 2) (l1, r.2).2.1) ∧ (vp_in ((nI i) + 3) (l1, r.2).2.1) ∧ (vp_in ((nI i) + 4) (l1, r.2).2.1) ∧ (vp_in ((nI i) + 5) (l1, r.2).2.1) from ⟨h1, h2, h3, h4, h5⟩) ?_
  refine mm_cV (as := [.int ((l1, r.2).2.2 (((nI i) + 1).toNatClampNeg)), .int ((l1, r.2).2.2 (((nI i) + 2).toNatClampNeg)), .int ((l1, r.2).2.2 (((nI i) + 3).toNatClampNeg)), .int ((l1, r.2).2.2 (((nI i) + 4).toNatClampNeg)), .int ((l1, r.2).2.2 (((nI i) + 5).toNatClampNeg))]) (st := [.long (an_chance A (r.2.2 ((nI i + 1).toNatClampNeg)) (r.2.2 ((nI i + 2).toNatClampNeg)) (r.2.2 ((nI i + 3).toNatClampNeg)) (r.2.2 ((nI i + 4).toNatClampNeg)) (r.2.2 ((nI i + 5).toNatClampNeg)))]) (q := 52) cw_Mo_chance lk_La_109 in_Mo_chance sl_Mo_chance rfl rfl (mm_at ok_La_law_12 (i := 29) rfl).1 (cm_chance (dy ++ dy1) g1 (l1, r.2) hM1 hSI (r.2.2 ((nI i + 1).toNatClampNeg)) (r.2.2 ((nI i + 2).toNatClampNeg)) (r.2.2 ((nI i + 3).toNatClampNeg)) (r.2.2 ((nI i + 4).toNatClampNeg)) (r.2.2 ((nI i + 5).toNatClampNeg))) (by decide) ⟨by omega, by omega⟩ (Nat.le_of_ble_eq_true rfl) (mm_vs_b (b := 77) rfl (hp_len _)) (fun v h' hqq => ?_)
  obtain ⟨rfl, g2, r2, hqe2, hr2, hM2, hf2⟩ := hqq
  rw [hqe2]
  refine mm_B ok_La_law_12 30 1 (917, [some (.float 0), some (.ref 0), some (.ref 52), some (.int (nI i))], [.int (lg_cmp (an_chance A (r.2.2 ((nI i + 1).toNatClampNeg)) (r.2.2 ((nI i + 2).toNatClampNeg)) (r.2.2 ((nI i + 3).toNatClampNeg)) (r.2.2 ((nI i + 4).toNatClampNeg)) (r.2.2 ((nI i + 5).toNatClampNeg))) (an_chance A (r.2.2 ((nI i + 1).toNatClampNeg)) (r.2.2 ((nI i + 2).toNatClampNeg)) (r.2.2 ((nI i + 3).toNatClampNeg)) (r.2.2 ((nI i + 4).toNatClampNeg)) (r.2.2 ((nI i + 5).toNatClampNeg))))], (hp_SH ++ (dy ++ dy1), g2, r2)) [] rfl trivial ?_
  refine mm_I ok_La_law_12 31 0 917 [some (.float 0), some (.ref 0), some (.ref 52), some (.int (nI i))] [.int (lg_cmp (an_chance A (r.2.2 ((nI i + 1).toNatClampNeg)) (r.2.2 ((nI i + 2).toNatClampNeg)) (r.2.2 ((nI i + 3).toNatClampNeg)) (r.2.2 ((nI i + 4).toNatClampNeg)) (r.2.2 ((nI i + 5).toNatClampNeg))) (an_chance A (r.2.2 ((nI i + 1).toNatClampNeg)) (r.2.2 ((nI i + 2).toNatClampNeg)) (r.2.2 ((nI i + 3).toNatClampNeg)) (r.2.2 ((nI i + 4).toNatClampNeg)) (r.2.2 ((nI i + 5).toNatClampNeg))))] (hp_SH ++ (dy ++ dy1), g2, r2) [] rfl trivial rfl rfl (fun _ => ?_) (fun q => False.elim (q (lcs _)))
  exact K _ _ (dy ++ dy1) g2 r2 _ (by omega) (by omega) hr2 (by rw [List.length_append]; omega) (CI_md hI1 (fun k j h => nr_cong (hf2 k j h))) hM2 (hSI)
theorem lwc_image {dy : List mm_Sh} {g : Nat → Nat → Int32} {r : (Nat → Nat → Int64) × Nat × (Nat → Int32)} {A : sA} (hI : CI dy (nr_ g) A) (hM : MI (nr_ g) A) (hSI : SI A) (hdy : dy.length ≤ 3000) {nc ns : Nat} (hnc : nc + 4 ≤ 600000) (hns : ns + 483 ≤ 7302250) {i : Nat} (hi : i + 6 ≤ r.2.1) (hL : r.2.1 ≤ 3072) (K : ∀ (nc' ns' : Nat) (dy' : List mm_Sh) (g' : Nat → Nat → Int32) (r' : (Nat → Nat → Int64) × Nat × (Nat → Int32)) (A' : sA), nc' ≤ nc + 4 → ns' ≤ ns + 483 → r'.2 = r.2 → dy'.length ≤ dy.length + 4 → CI dy' (nr_ g') A' → MI (nr_ g') A' → SI A' → LW nc' ns' (1206, LV i, [], (hp_SH ++ dy', g', r'))) : LW nc ns (922, LV i, [], (hp_SH ++ dy, g, r)) := by
  refine mm_B ok_La_law_12 34 1 (923, [some (.float 0), some (.ref 0), some (.ref 52), some (.int (nI i))], [.ref 0], (hp_SH ++ dy, g, r)) [] rfl trivial ?_
  refine mm_cV (as := []) (st := []) (q := 0) cw_Sc_image lk_La_110 in_Sc_image sl_Sc_image rfl rfl (mm_at ok_La_law_12 (i := 35) rfl).1 (cc_image dy g r hI hSI) (by decide) ⟨by omega, by omega⟩ (Nat.le_of_ble_eq_true rfl) (mm_vs_b (b := 77) rfl (hp_len _)) (fun v h' hqq => ?_)
  obtain ⟨rfl, dy1, g1, r1, hqe, hr1, hd1, hI1, hf1⟩ := hqq
  obtain ⟨l1, s1⟩ := r1
  have hs1 : s1 = r.2 := hr1
  subst hs1
  rw [hqe]
  have hM1 : MI (nr_ g1) A := MI_cl hM (fun k j h1 h2 => nr_cong (hf1 k j h1 h2))
  refine mm_B ok_La_law_12 36 1 (927, [some (.float 0), some (.ref 0), some (.ref 52), some (.int (nI i))], [.ref 52, .int ((an_image A).1)], (hp_SH ++ (dy ++ dy1), g1, (l1, r.2))) [] rfl trivial ?_
  refine mm_cV (as := []) (st := [.int ((an_image A).1)]) (q := 52) cw_Mo_image lk_La_113 in_Mo_image sl_Mo_image rfl rfl (mm_at ok_La_law_12 (i := 37) rfl).1 (cm_image (dy ++ dy1) g1 (l1, r.2) hM1 hSI) (by decide) ⟨by omega, by omega⟩ (Nat.le_of_ble_eq_true rfl) (mm_vs_b (b := 77) rfl (hp_len _)) (fun v h' hqq => ?_)
  obtain ⟨rfl, g2, r2, hqe2, hr2, hM2, hf2⟩ := hqq
  rw [hqe2]
  refine mm_I ok_La_law_12 38 0 930 [some (.float 0), some (.ref 0), some (.ref 52), some (.int (nI i))] [.int ((an_image A).1), .int ((an_image A).1)] (hp_SH ++ (dy ++ dy1), g2, r2) [] rfl trivial rfl rfl (fun _ => ?_) (fun q => False.elim (q rfl))
  exact K _ _ (dy ++ dy1) g2 r2 _ (by omega) (by omega) hr2 (by rw [List.length_append]; omega) (CI_md hI1 (fun k j h => nr_cong (hf2 k j h))) hM2 (SN_image hSI hM)
theorem lwc_back {dy : List mm_Sh} {g : Nat → Nat → Int32} {r : (Nat → Nat → Int64) × Nat × (Nat → Int32)} {A : sA} (hI : CI dy (nr_ g) A) (hM : MI (nr_ g) A) (hSI : SI A) (hdy : dy.length ≤ 3000) {nc ns : Nat} (hnc : nc + 4 ≤ 600000) (hns : ns + 483 ≤ 7302250) {i : Nat} (hi : i + 6 ≤ r.2.1) (hL : r.2.1 ≤ 3072) (K : ∀ (nc' ns' : Nat) (dy' : List mm_Sh) (g' : Nat → Nat → Int32) (r' : (Nat → Nat → Int64) × Nat × (Nat → Int32)) (A' : sA), nc' ≤ nc + 4 → ns' ≤ ns + 483 → r'.2 = r.2 → dy'.length ≤ dy.length + 4 → CI dy' (nr_ g') A' → MI (nr_ g') A' → SI A' → LW nc' ns' (1206, LV i, [], (hp_SH ++ dy', g', r'))) : LW nc ns (935, LV i, [], (hp_SH ++ dy, g, r)) := by
  refine mm_B ok_La_law_12 41 1 (936, [some (.float 0), some (.ref 0), some (.ref 52), some (.int (nI i))], [.ref 0], (hp_SH ++ dy, g, r)) [] rfl trivial ?_
  refine mm_cV (as := []) (st := []) (q := 0) cw_Sc_back lk_La_114 in_Sc_back sl_Sc_back rfl rfl (mm_at ok_La_law_12 (i := 42) rfl).1 (cc_back dy g r hI hSI) (by decide) ⟨by omega, by omega⟩ (Nat.le_of_ble_eq_true rfl) (mm_vs_b (b := 77) rfl (hp_len _)) (fun v h' hqq => ?_)
  obtain ⟨rfl, dy1, g1, r1, hqe, hr1, hd1, hI1, hf1⟩ := hqq
  obtain ⟨l1, s1⟩ := r1
  have hs1 : s1 = r.2 := hr1
  subst hs1
  rw [hqe]
  have hM1 : MI (nr_ g1) A := MI_cl hM (fun k j h1 h2 => nr_cong (hf1 k j h1 h2))
  refine mm_B ok_La_law_12 43 1 (940, [some (.float 0), some (.ref 0), some (.ref 52), some (.int (nI i))], [.ref 52, .int ((an_back A).1)], (hp_SH ++ (dy ++ dy1), g1, (l1, r.2))) [] rfl trivial ?_
  refine mm_cV (as := []) (st := [.int ((an_back A).1)]) (q := 52) cw_Mo_back lk_La_117 in_Mo_back sl_Mo_back rfl rfl (mm_at ok_La_law_12 (i := 44) rfl).1 (cm_back (dy ++ dy1) g1 (l1, r.2) hM1 hSI) (by decide) ⟨by omega, by omega⟩ (Nat.le_of_ble_eq_true rfl) (mm_vs_b (b := 77) rfl (hp_len _)) (fun v h' hqq => ?_)
  obtain ⟨rfl, g2, r2, hqe2, hr2, hM2, hf2⟩ := hqq
  rw [hqe2]
  refine mm_I ok_La_law_12 45 0 943 [some (.float 0), some (.ref 0), some (.ref 52), some (.int (nI i))] [.int ((an_back A).1), .int ((an_back A).1)] (hp_SH ++ (dy ++ dy1), g2, r2) [] rfl trivial rfl rfl (fun _ => ?_) (fun q => False.elim (q rfl))
  exact K _ _ (dy ++ dy1) g2 r2 _ (by omega) (by omega) hr2 (by rw [List.length_append]; omega) (CI_md hI1 (fun k j h => nr_cong (hf2 k j h))) hM2 (SN_back hSI)
theorem lwc_count {dy : List mm_Sh} {g : Nat → Nat → Int32} {r : (Nat → Nat → Int64) × Nat × (Nat → Int32)} {A : sA} (hI : CI dy (nr_ g) A) (hM : MI (nr_ g) A) (hSI : SI A) (hdy : dy.length ≤ 3000) {nc ns : Nat} (hnc : nc + 4 ≤ 600000) (hns : ns + 483 ≤ 7302250) {i : Nat} (hi : i + 6 ≤ r.2.1) (hL : r.2.1 ≤ 3072) (K : ∀ (nc' ns' : Nat) (dy' : List mm_Sh) (g' : Nat → Nat → Int32) (r' : (Nat → Nat → Int64) × Nat × (Nat → Int32)) (A' : sA), nc' ≤ nc + 4 → ns' ≤ ns + 483 → r'.2 = r.2 → dy'.length ≤ dy.length + 4 → CI dy' (nr_ g') A' → MI (nr_ g') A' → SI A' → LW nc' ns' (1206, LV i, [], (hp_SH ++ dy', g', r'))) : LW nc ns (948, LV i, [], (hp_SH ++ dy, g, r)) := by
  have h1 : vp_in (nI i + 1) r.2.1 := by rw [show nI i + 1 = nI (i + 1) from nI_add i 1]; exact nI_vi (by omega) (by omega)
  refine mm_B ok_La_law_12 48 2 (950, [some (.float 0), some (.ref 0), some (.ref 52), some (.int (nI i))], [.float 0, .ref 0], (hp_SH ++ dy, g, r)) [] rfl trivial ?_
  refine mm_B ok_La_law_13 0 4 (954, [some (.float 0), some (.ref 0), some (.ref 52), some (.int (nI i))], [.int (r.2.2 (((nI i) + 1).toNatClampNeg)), .ref 0], (hp_SH ++ dy, g, r)) [vp_in ((nI i) + 1) r.2.1] rfl (show vp_in ((nI i) + 1) r.2.1 from h1) ?_
  refine mm_cV (as := [.int (r.2.2 (((nI i) + 1).toNatClampNeg))]) (st := []) (q := 0) cw_Sc_count lk_La_118 in_Sc_count sl_Sc_count rfl rfl (mm_at ok_La_law_13 (i := 4) rfl).1 (cc_count dy g r hI hSI (r.2.2 ((nI i + 1).toNatClampNeg))) (by decide) ⟨by omega, by omega⟩ (Nat.le_of_ble_eq_true rfl) (mm_vs_b (b := 77) rfl (hp_len _)) (fun v h' hqq => ?_)
  obtain ⟨rfl, dy1, g1, r1, hqe, hr1, hd1, hI1, hf1⟩ := hqq
  obtain ⟨l1, s1⟩ := r1
  have hs1 : s1 = r.2 := hr1
  subst hs1
  rw [hqe]
  have hM1 : MI (nr_ g1) A := MI_cl hM (fun k j h1 h2 => nr_cong (hf1 k j h1 h2))
  refine mm_B ok_La_law_13 5 6 (963, [some (.float 0), some (.ref 0), some (.ref 52), some (.int (nI i))], [.int ((l1, r.2).2.2 (((nI i) + 1).toNatClampNeg)), .ref 52, .int (an_count A (r.2.2 ((nI i + 1).toNatClampNeg)))], (hp_SH ++ (dy ++ dy1), g1, (l1, r.2))) [vp_in ((nI i) + 1) (l1, r.2).2.1] rfl (show vp_in ((nI i) + 1) (l1, r.2).2.1 from h1) ?_
  refine mm_cV (as := [.int ((l1, r.2).2.2 (((nI i) + 1).toNatClampNeg))]) (st := [.int (an_count A (r.2.2 ((nI i + 1).toNatClampNeg)))]) (q := 52) cw_Mo_count lk_La_121 in_Mo_count sl_Mo_count rfl rfl (mm_at ok_La_law_13 (i := 11) rfl).1 (cm_count (dy ++ dy1) g1 (l1, r.2) hM1 hSI (r.2.2 ((nI i + 1).toNatClampNeg))) (by decide) ⟨by omega, by omega⟩ (Nat.le_of_ble_eq_true rfl) (mm_vs_b (b := 77) rfl (hp_len _)) (fun v h' hqq => ?_)
  obtain ⟨rfl, g2, r2, hqe2, hr2, hM2, hf2⟩ := hqq
  rw [hqe2]
  refine mm_I ok_La_law_13 12 0 966 [some (.float 0), some (.ref 0), some (.ref 52), some (.int (nI i))] [.int (an_count A (r.2.2 ((nI i + 1).toNatClampNeg))), .int (an_count A (r.2.2 ((nI i + 1).toNatClampNeg)))] (hp_SH ++ (dy ++ dy1), g2, r2) [] rfl trivial rfl rfl (fun _ => ?_) (fun q => False.elim (q rfl))
  exact K _ _ (dy ++ dy1) g2 r2 _ (by omega) (by omega) hr2 (by rw [List.length_append]; omega) (CI_md hI1 (fun k j h => nr_cong (hf2 k j h))) hM2 (hSI)
theorem lwc_sheet {dy : List mm_Sh} {g : Nat → Nat → Int32} {r : (Nat → Nat → Int64) × Nat × (Nat → Int32)} {A : sA} (hI : CI dy (nr_ g) A) (hM : MI (nr_ g) A) (hSI : SI A) (hdy : dy.length ≤ 3000) {nc ns : Nat} (hnc : nc + 4 ≤ 600000) (hns : ns + 483 ≤ 7302250) {i : Nat} (hi : i + 6 ≤ r.2.1) (hL : r.2.1 ≤ 3072) (K : ∀ (nc' ns' : Nat) (dy' : List mm_Sh) (g' : Nat → Nat → Int32) (r' : (Nat → Nat → Int64) × Nat × (Nat → Int32)) (A' : sA), nc' ≤ nc + 4 → ns' ≤ ns + 483 → r'.2 = r.2 → dy'.length ≤ dy.length + 4 → CI dy' (nr_ g') A' → MI (nr_ g') A' → SI A' → LW nc' ns' (1206, LV i, [], (hp_SH ++ dy', g', r'))) : LW nc ns (971, LV i, [], (hp_SH ++ dy, g, r)) := by
  have h1 : vp_in (nI i + 1) r.2.1 := by rw [show nI i + 1 = nI (i + 1) from nI_add i 1]; exact nI_vi (by omega) (by omega)
  have h2 : vp_in (nI i + 2) r.2.1 := by rw [show nI i + 2 = nI (i + 2) from nI_add i 2]; exact nI_vi (by omega) (by omega)
  have h3 : vp_in (nI i + 3) r.2.1 := by rw [show nI i + 3 = nI (i + 3) from nI_add i 3]; exact nI_vi (by omega) (by omega)
  refine mm_B ok_La_law_13 15 16 (987, [some (.float 0), some (.ref 0), some (.ref 52), some (.int (nI i))], [.int (r.2.2 (((nI i) + 3).toNatClampNeg)), .int (r.2.2 (((nI i) + 2).toNatClampNeg)), .int (r.2.2 (((nI i) + 1).toNatClampNeg)), .ref 0], (hp_SH ++ dy, g, r)) [vp_in ((nI i) + 1) r.2.1, vp_in ((nI i) + 2) r.2.1, vp_in ((nI i) + 3) r.2.1] rfl (show (vp_in ((nI i) + 1) r.2.1) ∧ (vp_in ((nI i) + 2) r.2.1) ∧ (vp_in ((nI i) + 3) r.2.1) from ⟨h1, h2, h3⟩) ?_
  refine mm_cV (as := [.int (r.2.2 (((nI i) + 1).toNatClampNeg)), .int (r.2.2 (((nI i) + 2).toNatClampNeg)), .int (r.2.2 (((nI i) + 3).toNatClampNeg))]) (st := []) (q := 0) cw_Sc_sheet lk_La_122 in_Sc_sheet sl_Sc_sheet rfl rfl (mm_at ok_La_law_13 (i := 31) rfl).1 (cc_sheet dy g r hI hSI (r.2.2 ((nI i + 1).toNatClampNeg)) (r.2.2 ((nI i + 2).toNatClampNeg)) (r.2.2 ((nI i + 3).toNatClampNeg))) (by decide) ⟨by omega, by omega⟩ (Nat.le_of_ble_eq_true rfl) (mm_vs_b (b := 77) rfl (hp_len _)) (fun v h' hqq => ?_)
  obtain ⟨rfl, dy1, g1, r1, hqe, hr1, hd1, hI1, hf1⟩ := hqq
  obtain ⟨l1, s1⟩ := r1
  have hs1 : s1 = r.2 := hr1
  subst hs1
  rw [hqe]
  have hM1 : MI (nr_ g1) A := MI_cl hM (fun k j h1 h2 => nr_cong (hf1 k j h1 h2))
  refine mm_B ok_La_law_13 32 16 (1006, [some (.float 0), some (.ref 0), some (.ref 52), some (.int (nI i))], [.int ((l1, r.2).2.2 (((nI i) + 3).toNatClampNeg)), .int ((l1, r.2).2.2 (((nI i) + 2).toNatClampNeg)), .int ((l1, r.2).2.2 (((nI i) + 1).toNatClampNeg)), .ref 52, .int ((an_sheet A (r.2.2 ((nI i + 1).toNatClampNeg)) (r.2.2 ((nI i + 2).toNatClampNeg)) (r.2.2 ((nI i + 3).toNatClampNeg))).1)], (hp_SH ++ (dy ++ dy1), g1, (l1, r.2))) [vp_in ((nI i) + 1) (l1, r.2).2.1, vp_in ((nI i) + 2) (l1, r.2).2.1, vp_in ((nI i) + 3) (l1, r.2).2.1] rfl (show (vp_in ((nI i) + 1) (l1, r.2).2.1) ∧ (vp_in ((nI i) + 2) (l1, r.2).2.1) ∧ (vp_in ((nI i) + 3) (l1, r.2).2.1) from ⟨h1, h2, h3⟩) ?_
  refine mm_cV (as := [.int ((l1, r.2).2.2 (((nI i) + 1).toNatClampNeg)), .int ((l1, r.2).2.2 (((nI i) + 2).toNatClampNeg)), .int ((l1, r.2).2.2 (((nI i) + 3).toNatClampNeg))]) (st := [.int ((an_sheet A (r.2.2 ((nI i + 1).toNatClampNeg)) (r.2.2 ((nI i + 2).toNatClampNeg)) (r.2.2 ((nI i + 3).toNatClampNeg))).1)]) (q := 52) cw_Mo_sheet lk_La_125 in_Mo_sheet sl_Mo_sheet rfl rfl (mm_at ok_La_law_13 (i := 48) rfl).1 (cm_sheet (dy ++ dy1) g1 (l1, r.2) hM1 hSI (r.2.2 ((nI i + 1).toNatClampNeg)) (r.2.2 ((nI i + 2).toNatClampNeg)) (r.2.2 ((nI i + 3).toNatClampNeg))) (by decide) ⟨by omega, by omega⟩ (Nat.le_of_ble_eq_true rfl) (mm_vs_b (b := 77) rfl (hp_len _)) (fun v h' hqq => ?_)
  obtain ⟨rfl, g2, r2, hqe2, hr2, hM2, hf2⟩ := hqq
  rw [hqe2]
  refine mm_I ok_La_law_13 49 0 1009 [some (.float 0), some (.ref 0), some (.ref 52), some (.int (nI i))] [.int ((an_sheet A (r.2.2 ((nI i + 1).toNatClampNeg)) (r.2.2 ((nI i + 2).toNatClampNeg)) (r.2.2 ((nI i + 3).toNatClampNeg))).1), .int ((an_sheet A (r.2.2 ((nI i + 1).toNatClampNeg)) (r.2.2 ((nI i + 2).toNatClampNeg)) (r.2.2 ((nI i + 3).toNatClampNeg))).1)] (hp_SH ++ (dy ++ dy1), g2, r2) [] rfl trivial rfl rfl (fun _ => ?_) (fun q => False.elim (q rfl))
  exact K _ _ (dy ++ dy1) g2 r2 _ (by omega) (by omega) hr2 (by rw [List.length_append]; omega) (CI_md hI1 (fun k j h => nr_cong (hf2 k j h))) hM2 (SN_sheet hSI _ _ _)
theorem lwc_cell {dy : List mm_Sh} {g : Nat → Nat → Int32} {r : (Nat → Nat → Int64) × Nat × (Nat → Int32)} {A : sA} (hI : CI dy (nr_ g) A) (hM : MI (nr_ g) A) (hSI : SI A) (hdy : dy.length ≤ 3000) {nc ns : Nat} (hnc : nc + 4 ≤ 600000) (hns : ns + 483 ≤ 7302250) {i : Nat} (hi : i + 6 ≤ r.2.1) (hL : r.2.1 ≤ 3072) (K : ∀ (nc' ns' : Nat) (dy' : List mm_Sh) (g' : Nat → Nat → Int32) (r' : (Nat → Nat → Int64) × Nat × (Nat → Int32)) (A' : sA), nc' ≤ nc + 4 → ns' ≤ ns + 483 → r'.2 = r.2 → dy'.length ≤ dy.length + 4 → CI dy' (nr_ g') A' → MI (nr_ g') A' → SI A' → LW nc' ns' (1206, LV i, [], (hp_SH ++ dy', g', r'))) : LW nc ns (1014, LV i, [], (hp_SH ++ dy, g, r)) := by
  have h1 : vp_in (nI i + 1) r.2.1 := by rw [show nI i + 1 = nI (i + 1) from nI_add i 1]; exact nI_vi (by omega) (by omega)
  have h2 : vp_in (nI i + 2) r.2.1 := by rw [show nI i + 2 = nI (i + 2) from nI_add i 2]; exact nI_vi (by omega) (by omega)
  have h3 : vp_in (nI i + 3) r.2.1 := by rw [show nI i + 3 = nI (i + 3) from nI_add i 3]; exact nI_vi (by omega) (by omega)
  refine mm_B ok_La_law_14 2 16 (1030, [some (.float 0), some (.ref 0), some (.ref 52), some (.int (nI i))], [.int (r.2.2 (((nI i) + 3).toNatClampNeg)), .int (r.2.2 (((nI i) + 2).toNatClampNeg)), .int (r.2.2 (((nI i) + 1).toNatClampNeg)), .ref 0], (hp_SH ++ dy, g, r)) [vp_in ((nI i) + 1) r.2.1, vp_in ((nI i) + 2) r.2.1, vp_in ((nI i) + 3) r.2.1] rfl (show (vp_in ((nI i) + 1) r.2.1) ∧ (vp_in ((nI i) + 2) r.2.1) ∧ (vp_in ((nI i) + 3) r.2.1) from ⟨h1, h2, h3⟩) ?_
  refine mm_cV (as := [.int (r.2.2 (((nI i) + 1).toNatClampNeg)), .int (r.2.2 (((nI i) + 2).toNatClampNeg)), .int (r.2.2 (((nI i) + 3).toNatClampNeg))]) (st := []) (q := 0) cw_Sc_cell lk_La_126 in_Sc_cell sl_Sc_cell rfl rfl (mm_at ok_La_law_14 (i := 18) rfl).1 (cc_cell dy g r hI hSI (r.2.2 ((nI i + 1).toNatClampNeg)) (r.2.2 ((nI i + 2).toNatClampNeg)) (r.2.2 ((nI i + 3).toNatClampNeg))) (by decide) ⟨by omega, by omega⟩ (Nat.le_of_ble_eq_true rfl) (mm_vs_b (b := 77) rfl (hp_len _)) (fun v h' hqq => ?_)
  obtain ⟨rfl, dy1, g1, r1, hqe, hr1, hd1, hI1, hf1⟩ := hqq
  obtain ⟨l1, s1⟩ := r1
  have hs1 : s1 = r.2 := hr1
  subst hs1
  rw [hqe]
  have hM1 : MI (nr_ g1) A := MI_cl hM (fun k j h1 h2 => nr_cong (hf1 k j h1 h2))
  refine mm_B ok_La_law_14 19 16 (1049, [some (.float 0), some (.ref 0), some (.ref 52), some (.int (nI i))], [.int ((l1, r.2).2.2 (((nI i) + 3).toNatClampNeg)), .int ((l1, r.2).2.2 (((nI i) + 2).toNatClampNeg)), .int ((l1, r.2).2.2 (((nI i) + 1).toNatClampNeg)), .ref 52, .int ((an_cell A (r.2.2 ((nI i + 1).toNatClampNeg)) (r.2.2 ((nI i + 2).toNatClampNeg)) (r.2.2 ((nI i + 3).toNatClampNeg))).1)], (hp_SH ++ (dy ++ dy1), g1, (l1, r.2))) [vp_in ((nI i) + 1) (l1, r.2).2.1, vp_in ((nI i) + 2) (l1, r.2).2.1, vp_in ((nI i) + 3) (l1, r.2).2.1] rfl (show (vp_in ((nI i) + 1) (l1, r.2).2.1) ∧ (vp_in ((nI i) + 2) (l1, r.2).2.1) ∧ (vp_in ((nI i) + 3) (l1, r.2).2.1) from ⟨h1, h2, h3⟩) ?_
  refine mm_cV (as := [.int ((l1, r.2).2.2 (((nI i) + 1).toNatClampNeg)), .int ((l1, r.2).2.2 (((nI i) + 2).toNatClampNeg)), .int ((l1, r.2).2.2 (((nI i) + 3).toNatClampNeg))]) (st := [.int ((an_cell A (r.2.2 ((nI i + 1).toNatClampNeg)) (r.2.2 ((nI i + 2).toNatClampNeg)) (r.2.2 ((nI i + 3).toNatClampNeg))).1)]) (q := 52) cw_Mo_cell lk_La_129 in_Mo_cell sl_Mo_cell rfl rfl (mm_at ok_La_law_14 (i := 35) rfl).1 (cm_cell (dy ++ dy1) g1 (l1, r.2) hM1 hSI (r.2.2 ((nI i + 1).toNatClampNeg)) (r.2.2 ((nI i + 2).toNatClampNeg)) (r.2.2 ((nI i + 3).toNatClampNeg))) (by decide) ⟨by omega, by omega⟩ (Nat.le_of_ble_eq_true rfl) (mm_vs_b (b := 77) rfl (hp_len _)) (fun v h' hqq => ?_)
  obtain ⟨rfl, g2, r2, hqe2, hr2, hM2, hf2⟩ := hqq
  rw [hqe2]
  refine mm_I ok_La_law_14 36 0 1052 [some (.float 0), some (.ref 0), some (.ref 52), some (.int (nI i))] [.int ((an_cell A (r.2.2 ((nI i + 1).toNatClampNeg)) (r.2.2 ((nI i + 2).toNatClampNeg)) (r.2.2 ((nI i + 3).toNatClampNeg))).1), .int ((an_cell A (r.2.2 ((nI i + 1).toNatClampNeg)) (r.2.2 ((nI i + 2).toNatClampNeg)) (r.2.2 ((nI i + 3).toNatClampNeg))).1)] (hp_SH ++ (dy ++ dy1), g2, r2) [] rfl trivial rfl rfl (fun _ => ?_) (fun q => False.elim (q rfl))
  exact K _ _ (dy ++ dy1) g2 r2 _ (by omega) (by omega) hr2 (by rw [List.length_append]; omega) (CI_md hI1 (fun k j h => nr_cong (hf2 k j h))) hM2 (SN_cell hSI _ _ _)
theorem lwc_copy {dy : List mm_Sh} {g : Nat → Nat → Int32} {r : (Nat → Nat → Int64) × Nat × (Nat → Int32)} {A : sA} (hI : CI dy (nr_ g) A) (hM : MI (nr_ g) A) (hSI : SI A) (hdy : dy.length ≤ 3000) {nc ns : Nat} (hnc : nc + 4 ≤ 600000) (hns : ns + 483 ≤ 7302250) {i : Nat} (hi : i + 6 ≤ r.2.1) (hL : r.2.1 ≤ 3072) (K : ∀ (nc' ns' : Nat) (dy' : List mm_Sh) (g' : Nat → Nat → Int32) (r' : (Nat → Nat → Int64) × Nat × (Nat → Int32)) (A' : sA), nc' ≤ nc + 4 → ns' ≤ ns + 483 → r'.2 = r.2 → dy'.length ≤ dy.length + 4 → CI dy' (nr_ g') A' → MI (nr_ g') A' → SI A' → LW nc' ns' (1206, LV i, [], (hp_SH ++ dy', g', r'))) : LW nc ns (1057, LV i, [], (hp_SH ++ dy, g, r)) := by
  have h1 : vp_in (nI i + 1) r.2.1 := by rw [show nI i + 1 = nI (i + 1) from nI_add i 1]; exact nI_vi (by omega) (by omega)
  have h2 : vp_in (nI i + 2) r.2.1 := by rw [show nI i + 2 = nI (i + 2) from nI_add i 2]; exact nI_vi (by omega) (by omega)
  have h3 : vp_in (nI i + 3) r.2.1 := by rw [show nI i + 3 = nI (i + 3) from nI_add i 3]; exact nI_vi (by omega) (by omega)
  have h4 : vp_in (nI i + 4) r.2.1 := by rw [show nI i + 4 = nI (i + 4) from nI_add i 4]; exact nI_vi (by omega) (by omega)
  have h5 : vp_in (nI i + 5) r.2.1 := by rw [show nI i + 5 = nI (i + 5) from nI_add i 5]; exact nI_vi (by omega) (by omega)
  refine mm_B ok_La_law_14 39 11 (1068, [some (.float 0), some (.ref 0), some (.ref 52), some (.int (nI i))], [.int (r.2.2 (((nI i) + 2).toNatClampNeg)), .int (r.2.2 (((nI i) + 1).toNatClampNeg)), .ref 0], (hp_SH ++ dy, g, r)) [vp_in ((nI i) + 1) r.2.1, vp_in ((nI i) + 2) r.2.1] rfl (show (vp_in ((nI i) + 1) r.2.1) ∧ (vp_in ((nI i) + 2) r.2.1) from ⟨h1, h2⟩) ?_
  refine mm_B ok_La_law_15 0 15 (1083, [some (.float 0), some (.ref 0), some (.ref 52), some (.int (nI i))], [.int (r.2.2 (((nI i) + 5).toNatClampNeg)), .int (r.2.2 (((nI i) + 4).toNatClampNeg)), .int (r.2.2 (((nI i) + 3).toNatClampNeg)), .int (r.2.2 (((nI i) + 2).toNatClampNeg)), .int (r.2.2 (((nI i) + 1).toNatClampNeg)), .ref 0], (hp_SH ++ dy, g, r)) [vp_in ((nI i) + 3) r.2.1, vp_in ((nI i) + 4) r.2.1, vp_in ((nI i) + 5) r.2.1] rfl (show (vp_in ((nI i) + 3) r.2.1) ∧ (vp_in ((nI i) + 4) r.2.1) ∧ (vp_in ((nI i) + 5) r.2.1) from ⟨h3, h4, h5⟩) ?_
  refine mm_cV (as := [.int (r.2.2 (((nI i) + 1).toNatClampNeg)), .int (r.2.2 (((nI i) + 2).toNatClampNeg)), .int (r.2.2 (((nI i) + 3).toNatClampNeg)), .int (r.2.2 (((nI i) + 4).toNatClampNeg)), .int (r.2.2 (((nI i) + 5).toNatClampNeg))]) (st := []) (q := 0) cw_Sc_copy lk_La_130 in_Sc_copy sl_Sc_copy rfl rfl (mm_at ok_La_law_15 (i := 15) rfl).1 (cc_copy dy g r hI hSI (r.2.2 ((nI i + 1).toNatClampNeg)) (r.2.2 ((nI i + 2).toNatClampNeg)) (r.2.2 ((nI i + 3).toNatClampNeg)) (r.2.2 ((nI i + 4).toNatClampNeg)) (r.2.2 ((nI i + 5).toNatClampNeg))) (by decide) ⟨by omega, by omega⟩ (Nat.le_of_ble_eq_true rfl) (mm_vs_b (b := 77) rfl (hp_len _)) (fun v h' hqq => ?_)
  obtain ⟨rfl, dy1, g1, r1, hqe, hr1, hd1, hI1, hf1⟩ := hqq
  obtain ⟨l1, s1⟩ := r1
  have hs1 : s1 = r.2 := hr1
  subst hs1
  rw [hqe]
  have hM1 : MI (nr_ g1) A := MI_cl hM (fun k j h1 h2 => nr_cong (hf1 k j h1 h2))
  refine mm_B ok_La_law_15 16 26 (1112, [some (.float 0), some (.ref 0), some (.ref 52), some (.int (nI i))], [.int ((l1, r.2).2.2 (((nI i) + 5).toNatClampNeg)), .int ((l1, r.2).2.2 (((nI i) + 4).toNatClampNeg)), .int ((l1, r.2).2.2 (((nI i) + 3).toNatClampNeg)), .int ((l1, r.2).2.2 (((nI i) + 2).toNatClampNeg)), .int ((l1, r.2).2.2 (((nI i) + 1).toNatClampNeg)), .ref 52, .int ((an_copy A (r.2.2 ((nI i + 1).toNatClampNeg)) (r.2.2 ((nI i + 2).toNatClampNeg)) (r.2.2 ((nI i + 3).toNatClampNeg)) (r.2.2 ((nI i + 4).toNatClampNeg)) (r.2.2 ((nI i + 5).toNatClampNeg))).1)], (hp_SH ++ (dy ++ dy1), g1, (l1, r.2))) [vp_in ((nI i) + 1) (l1, r.2).2.1, vp_in ((nI i) + 2) (l1, r.2).2.1, vp_in ((nI i) + 3) (l1, r.2).2.1, vp_in ((nI i) + 4) (l1, r.2).2.1, vp_in ((nI i) + 5) (l1, r.2).2.1] rfl (show (vp_in ((nI i) + 1) (l1, r.2).2.1) ∧ (vp_in ((nI i) + 2) (l1, r.2).2.1) ∧ (vp_in ((nI i) + 3) (l1, r.2).2.1) ∧ (vp_in ((nI i) + 4) (l1, r.2).2.1) ∧ (vp_in ((nI i) + 5) (l1, r.2).2.1) from ⟨h1, h2, h3, h4, h5⟩) ?_
  refine mm_cV (as := [.int ((l1, r.2).2.2 (((nI i) + 1).toNatClampNeg)), .int ((l1, r.2).2.2 (((nI i) + 2).toNatClampNeg)), .int ((l1, r.2).2.2 (((nI i) + 3).toNatClampNeg)), .int ((l1, r.2).2.2 (((nI i) + 4).toNatClampNeg)), .int ((l1, r.2).2.2 (((nI i) + 5).toNatClampNeg))]) (st := [.int ((an_copy A (r.2.2 ((nI i + 1).toNatClampNeg)) (r.2.2 ((nI i + 2).toNatClampNeg)) (r.2.2 ((nI i + 3).toNatClampNeg)) (r.2.2 ((nI i + 4).toNatClampNeg)) (r.2.2 ((nI i + 5).toNatClampNeg))).1)]) (q := 52) cw_Mo_copy lk_La_134 in_Mo_copy sl_Mo_copy rfl rfl (mm_at ok_La_law_15 (i := 42) rfl).1 (cm_copy (dy ++ dy1) g1 (l1, r.2) hM1 hSI (r.2.2 ((nI i + 1).toNatClampNeg)) (r.2.2 ((nI i + 2).toNatClampNeg)) (r.2.2 ((nI i + 3).toNatClampNeg)) (r.2.2 ((nI i + 4).toNatClampNeg)) (r.2.2 ((nI i + 5).toNatClampNeg))) (by decide) ⟨by omega, by omega⟩ (Nat.le_of_ble_eq_true rfl) (mm_vs_b (b := 77) rfl (hp_len _)) (fun v h' hqq => ?_)
  obtain ⟨rfl, g2, r2, hqe2, hr2, hM2, hf2⟩ := hqq
  rw [hqe2]
  refine mm_I ok_La_law_15 43 0 1115 [some (.float 0), some (.ref 0), some (.ref 52), some (.int (nI i))] [.int ((an_copy A (r.2.2 ((nI i + 1).toNatClampNeg)) (r.2.2 ((nI i + 2).toNatClampNeg)) (r.2.2 ((nI i + 3).toNatClampNeg)) (r.2.2 ((nI i + 4).toNatClampNeg)) (r.2.2 ((nI i + 5).toNatClampNeg))).1), .int ((an_copy A (r.2.2 ((nI i + 1).toNatClampNeg)) (r.2.2 ((nI i + 2).toNatClampNeg)) (r.2.2 ((nI i + 3).toNatClampNeg)) (r.2.2 ((nI i + 4).toNatClampNeg)) (r.2.2 ((nI i + 5).toNatClampNeg))).1)] (hp_SH ++ (dy ++ dy1), g2, r2) [] rfl trivial rfl rfl (fun _ => ?_) (fun q => False.elim (q rfl))
  exact K _ _ (dy ++ dy1) g2 r2 _ (by omega) (by omega) hr2 (by rw [List.length_append]; omega) (CI_md hI1 (fun k j h => nr_cong (hf2 k j h))) hM2 (SN_copy hSI _ _ _ _ _)
theorem lwc_children {dy : List mm_Sh} {g : Nat → Nat → Int32} {r : (Nat → Nat → Int64) × Nat × (Nat → Int32)} {A : sA} (hI : CI dy (nr_ g) A) (hM : MI (nr_ g) A) (hSI : SI A) (hdy : dy.length ≤ 3000) {nc ns : Nat} (hnc : nc + 4 ≤ 600000) (hns : ns + 483 ≤ 7302250) {i : Nat} (hi : i + 6 ≤ r.2.1) (hL : r.2.1 ≤ 3072) (K : ∀ (nc' ns' : Nat) (dy' : List mm_Sh) (g' : Nat → Nat → Int32) (r' : (Nat → Nat → Int64) × Nat × (Nat → Int32)) (A' : sA), nc' ≤ nc + 4 → ns' ≤ ns + 483 → r'.2 = r.2 → dy'.length ≤ dy.length + 4 → CI dy' (nr_ g') A' → MI (nr_ g') A' → SI A' → LW nc' ns' (1206, LV i, [], (hp_SH ++ dy', g', r'))) : LW nc ns (1120, LV i, [], (hp_SH ++ dy, g, r)) := by
  have h1 : vp_in (nI i + 1) r.2.1 := by rw [show nI i + 1 = nI (i + 1) from nI_add i 1]; exact nI_vi (by omega) (by omega)
  have h2 : vp_in (nI i + 2) r.2.1 := by rw [show nI i + 2 = nI (i + 2) from nI_add i 2]; exact nI_vi (by omega) (by omega)
  have h3 : vp_in (nI i + 3) r.2.1 := by rw [show nI i + 3 = nI (i + 3) from nI_add i 3]; exact nI_vi (by omega) (by omega)
  have h4 : vp_in (nI i + 4) r.2.1 := by rw [show nI i + 4 = nI (i + 4) from nI_add i 4]; exact nI_vi (by omega) (by omega)
  refine mm_B ok_La_law_15 46 4 (1124, [some (.float 0), some (.ref 0), some (.ref 52), some (.int (nI i))], [.int 1, .int (nI i), .float 0, .ref 0], (hp_SH ++ dy, g, r)) [] rfl trivial ?_
  refine mm_B ok_La_law_16 0 17 (1141, [some (.float 0), some (.ref 0), some (.ref 52), some (.int (nI i))], [.int (r.2.2 (((nI i) + 4).toNatClampNeg)), .int (r.2.2 (((nI i) + 3).toNatClampNeg)), .int (r.2.2 (((nI i) + 2).toNatClampNeg)), .int (r.2.2 (((nI i) + 1).toNatClampNeg)), .ref 0], (hp_SH ++ dy, g, r)) [vp_in ((nI i) + 1) r.2.1, vp_in ((nI i) + 2) r.2.1, vp_in ((nI i) + 3) r.2.1, vp_in ((nI i) + 4) r.2.1] rfl (show (vp_in ((nI i) + 1) r.2.1) ∧ (vp_in ((nI i) + 2) r.2.1) ∧ (vp_in ((nI i) + 3) r.2.1) ∧ (vp_in ((nI i) + 4) r.2.1) from ⟨h1, h2, h3, h4⟩) ?_
  refine mm_cV (as := [.int (r.2.2 (((nI i) + 1).toNatClampNeg)), .int (r.2.2 (((nI i) + 2).toNatClampNeg)), .int (r.2.2 (((nI i) + 3).toNatClampNeg)), .int (r.2.2 (((nI i) + 4).toNatClampNeg))]) (st := []) (q := 0) cw_Sc_children lk_La_135 in_Sc_children sl_Sc_children rfl rfl (mm_at ok_La_law_16 (i := 17) rfl).1 (cc_children dy g r hI hSI (r.2.2 ((nI i + 1).toNatClampNeg)) (r.2.2 ((nI i + 2).toNatClampNeg)) (r.2.2 ((nI i + 3).toNatClampNeg)) (r.2.2 ((nI i + 4).toNatClampNeg))) (by decide) ⟨by omega, by omega⟩ (Nat.le_of_ble_eq_true rfl) (mm_vs_b (b := 77) rfl (hp_len _)) (fun v h' hqq => ?_)
  obtain ⟨rfl, dy1, g1, r1, hqe, hr1, hd1, hI1, hf1⟩ := hqq
  obtain ⟨l1, s1⟩ := r1
  have hs1 : s1 = r.2 := hr1
  subst hs1
  rw [hqe]
  have hM1 : MI (nr_ g1) A := MI_cl hM (fun k j h1 h2 => nr_cong (hf1 k j h1 h2))
  refine mm_B ok_La_law_16 18 21 (1165, [some (.float 0), some (.ref 0), some (.ref 52), some (.int (nI i))], [.int ((l1, r.2).2.2 (((nI i) + 4).toNatClampNeg)), .int ((l1, r.2).2.2 (((nI i) + 3).toNatClampNeg)), .int ((l1, r.2).2.2 (((nI i) + 2).toNatClampNeg)), .int ((l1, r.2).2.2 (((nI i) + 1).toNatClampNeg)), .ref 52, .int ((an_children A (r.2.2 ((nI i + 1).toNatClampNeg)) (r.2.2 ((nI i + 2).toNatClampNeg)) (r.2.2 ((nI i + 3).toNatClampNeg)) (r.2.2 ((nI i + 4).toNatClampNeg))).1)], (hp_SH ++ (dy ++ dy1), g1, (l1, r.2))) [vp_in ((nI i) + 1) (l1, r.2).2.1, vp_in ((nI i) + 2) (l1, r.2).2.1, vp_in ((nI i) + 3) (l1, r.2).2.1, vp_in ((nI i) + 4) (l1, r.2).2.1] rfl (show (vp_in ((nI i) + 1) (l1, r.2).2.1) ∧ (vp_in ((nI i) + 2) (l1, r.2).2.1) ∧ (vp_in ((nI i) + 3) (l1, r.2).2.1) ∧ (vp_in ((nI i) + 4) (l1, r.2).2.1) from ⟨h1, h2, h3, h4⟩) ?_
  refine mm_cV (as := [.int ((l1, r.2).2.2 (((nI i) + 1).toNatClampNeg)), .int ((l1, r.2).2.2 (((nI i) + 2).toNatClampNeg)), .int ((l1, r.2).2.2 (((nI i) + 3).toNatClampNeg)), .int ((l1, r.2).2.2 (((nI i) + 4).toNatClampNeg))]) (st := [.int ((an_children A (r.2.2 ((nI i + 1).toNatClampNeg)) (r.2.2 ((nI i + 2).toNatClampNeg)) (r.2.2 ((nI i + 3).toNatClampNeg)) (r.2.2 ((nI i + 4).toNatClampNeg))).1)]) (q := 52) cw_Mo_children lk_La_139 in_Mo_children sl_Mo_children rfl rfl (mm_at ok_La_law_16 (i := 39) rfl).1 (cm_children (dy ++ dy1) g1 (l1, r.2) hM1 hSI (r.2.2 ((nI i + 1).toNatClampNeg)) (r.2.2 ((nI i + 2).toNatClampNeg)) (r.2.2 ((nI i + 3).toNatClampNeg)) (r.2.2 ((nI i + 4).toNatClampNeg))) (by decide) ⟨by omega, by omega⟩ (Nat.le_of_ble_eq_true rfl) (mm_vs_b (b := 77) rfl (hp_len _)) (fun v h' hqq => ?_)
  obtain ⟨rfl, g2, r2, hqe2, hr2, hM2, hf2⟩ := hqq
  rw [hqe2]
  refine mm_I ok_La_law_16 40 0 1168 [some (.float 0), some (.ref 0), some (.ref 52), some (.int (nI i))] [.int ((an_children A (r.2.2 ((nI i + 1).toNatClampNeg)) (r.2.2 ((nI i + 2).toNatClampNeg)) (r.2.2 ((nI i + 3).toNatClampNeg)) (r.2.2 ((nI i + 4).toNatClampNeg))).1), .int ((an_children A (r.2.2 ((nI i + 1).toNatClampNeg)) (r.2.2 ((nI i + 2).toNatClampNeg)) (r.2.2 ((nI i + 3).toNatClampNeg)) (r.2.2 ((nI i + 4).toNatClampNeg))).1)] (hp_SH ++ (dy ++ dy1), g2, r2) [] rfl trivial rfl rfl (fun _ => ?_) (fun q => False.elim (q rfl))
  exact K _ _ (dy ++ dy1) g2 r2 _ (by omega) (by omega) hr2 (by rw [List.length_append]; omega) (CI_md hI1 (fun k j h => nr_cong (hf2 k j h))) hM2 (SN_children hSI _ _ _ _)
theorem lwc_taken {dy : List mm_Sh} {g : Nat → Nat → Int32} {r : (Nat → Nat → Int64) × Nat × (Nat → Int32)} {A : sA} (hI : CI dy (nr_ g) A) (hM : MI (nr_ g) A) (hSI : SI A) (hdy : dy.length ≤ 3000) {nc ns : Nat} (hnc : nc + 4 ≤ 600000) (hns : ns + 483 ≤ 7302250) {i : Nat} (hi : i + 6 ≤ r.2.1) (hL : r.2.1 ≤ 3072) (K : ∀ (nc' ns' : Nat) (dy' : List mm_Sh) (g' : Nat → Nat → Int32) (r' : (Nat → Nat → Int64) × Nat × (Nat → Int32)) (A' : sA), nc' ≤ nc + 4 → ns' ≤ ns + 483 → r'.2 = r.2 → dy'.length ≤ dy.length + 4 → CI dy' (nr_ g') A' → MI (nr_ g') A' → SI A' → LW nc' ns' (1206, LV i, [], (hp_SH ++ dy', g', r'))) : LW nc ns (1173, LV i, [], (hp_SH ++ dy, g, r)) := by
  have h1 : vp_in (nI i + 1) r.2.1 := by rw [show nI i + 1 = nI (i + 1) from nI_add i 1]; exact nI_vi (by omega) (by omega)
  have h2 : vp_in (nI i + 2) r.2.1 := by rw [show nI i + 2 = nI (i + 2) from nI_add i 2]; exact nI_vi (by omega) (by omega)
  refine mm_B ok_La_law_16 43 7 (1180, [some (.float 0), some (.ref 0), some (.ref 52), some (.int (nI i))], [.float 0, .int (r.2.2 (((nI i) + 1).toNatClampNeg)), .ref 0], (hp_SH ++ dy, g, r)) [vp_in ((nI i) + 1) r.2.1] rfl (show vp_in ((nI i) + 1) r.2.1 from h1) ?_
  refine mm_B ok_La_law_17 0 4 (1184, [some (.float 0), some (.ref 0), some (.ref 52), some (.int (nI i))], [.int (r.2.2 (((nI i) + 2).toNatClampNeg)), .int (r.2.2 (((nI i) + 1).toNatClampNeg)), .ref 0], (hp_SH ++ dy, g, r)) [vp_in ((nI i) + 2) r.2.1] rfl (show vp_in ((nI i) + 2) r.2.1 from h2) ?_
  refine mm_cV (as := [.int (r.2.2 (((nI i) + 1).toNatClampNeg)), .int (r.2.2 (((nI i) + 2).toNatClampNeg))]) (st := []) (q := 0) cw_Sc_taken lk_La_140 in_Sc_taken sl_Sc_taken rfl rfl (mm_at ok_La_law_17 (i := 4) rfl).1 (cc_taken dy g r hI hSI (r.2.2 ((nI i + 1).toNatClampNeg)) (r.2.2 ((nI i + 2).toNatClampNeg))) (by decide) ⟨by omega, by omega⟩ (Nat.le_of_ble_eq_true rfl) (mm_vs_b (b := 77) rfl (hp_len _)) (fun v h' hqq => ?_)
  obtain ⟨rfl, dy1, g1, r1, hqe, hr1, hd1, hI1, hf1⟩ := hqq
  obtain ⟨l1, s1⟩ := r1
  have hs1 : s1 = r.2 := hr1
  subst hs1
  rw [hqe]
  have hM1 : MI (nr_ g1) A := MI_cl hM (fun k j h1 h2 => nr_cong (hf1 k j h1 h2))
  refine mm_B ok_La_law_17 5 11 (1198, [some (.float 0), some (.ref 0), some (.ref 52), some (.int (nI i))], [.int ((l1, r.2).2.2 (((nI i) + 2).toNatClampNeg)), .int ((l1, r.2).2.2 (((nI i) + 1).toNatClampNeg)), .ref 52, .int (an_taken A (r.2.2 ((nI i + 1).toNatClampNeg)) (r.2.2 ((nI i + 2).toNatClampNeg)))], (hp_SH ++ (dy ++ dy1), g1, (l1, r.2))) [vp_in ((nI i) + 1) (l1, r.2).2.1, vp_in ((nI i) + 2) (l1, r.2).2.1] rfl (show (vp_in ((nI i) + 1) (l1, r.2).2.1) ∧ (vp_in ((nI i) + 2) (l1, r.2).2.1) from ⟨h1, h2⟩) ?_
  refine mm_cV (as := [.int ((l1, r.2).2.2 (((nI i) + 1).toNatClampNeg)), .int ((l1, r.2).2.2 (((nI i) + 2).toNatClampNeg))]) (st := [.int (an_taken A (r.2.2 ((nI i + 1).toNatClampNeg)) (r.2.2 ((nI i + 2).toNatClampNeg)))]) (q := 52) cw_Mo_taken lk_La_143 in_Mo_taken sl_Mo_taken rfl rfl (mm_at ok_La_law_17 (i := 16) rfl).1 (cm_taken (dy ++ dy1) g1 (l1, r.2) hM1 hSI (r.2.2 ((nI i + 1).toNatClampNeg)) (r.2.2 ((nI i + 2).toNatClampNeg))) (by decide) ⟨by omega, by omega⟩ (Nat.le_of_ble_eq_true rfl) (mm_vs_b (b := 77) rfl (hp_len _)) (fun v h' hqq => ?_)
  obtain ⟨rfl, g2, r2, hqe2, hr2, hM2, hf2⟩ := hqq
  rw [hqe2]
  refine mm_I ok_La_law_17 17 0 1201 [some (.float 0), some (.ref 0), some (.ref 52), some (.int (nI i))] [.int (an_taken A (r.2.2 ((nI i + 1).toNatClampNeg)) (r.2.2 ((nI i + 2).toNatClampNeg))), .int (an_taken A (r.2.2 ((nI i + 1).toNatClampNeg)) (r.2.2 ((nI i + 2).toNatClampNeg)))] (hp_SH ++ (dy ++ dy1), g2, r2) [] rfl trivial rfl rfl (fun _ => ?_) (fun q => False.elim (q rfl))
  exact K _ _ (dy ++ dy1) g2 r2 _ (by omega) (by omega) hr2 (by rw [List.length_append]; omega) (CI_md hI1 (fun k j h => nr_cong (hf2 k j h))) hM2 (hSI)
theorem law_exit {h : mm_Hp} {nc ns i : Nat} (hnc : nc ≤ 600000) (hns : ns ≤ 7302250) (hL : h.2.2.2.1 ≤ 3072) (hi : i ≤ 3072) (he : h.2.2.2.1 < i + 6) : LW nc ns (18, LV i, [], h) := by
  refine mm_B ok_La_law_0 10 5 (24, [some (.float 0), some (.ref 0), some (.ref 52), some (.int (nI i))], [.int ((nI h.2.2.2.1) - 6), .int (nI i)], h) [] rfl trivial ?_
  refine mm_I ok_La_law_0 15 0 24 [some (.float 0), some (.ref 0), some (.ref 52), some (.int (nI i))] [.int ((nI h.2.2.2.1) - 6), .int (nI i)] h [] rfl trivial rfl rfl (fun _ => ?_) (fun q => False.elim (q ((sb_ltg (n := 6) (by omega) (by decide) (by omega)).mpr he)))
  refine mm_B ok_La_law_17 22 1 (1213, [some (.float 0), some (.ref 0), some (.ref 52), some (.int (nI i))], [.int 1], h) [] rfl trivial ?_
  exact mm_rz rfl (mm_at ok_La_law_17 (i := 23) rfl).1 ⟨hnc, hns⟩ (Or.inr rfl) rfl
theorem law_loop : ∀ (m c nc ns : Nat) (dy : List mm_Sh) (g : Nat → Nat → Int32) (r : (Nat → Nat → Int64) × Nat × (Nat → Int32)) (A : sA), c + m = 512 → nc ≤ 200 + 4 * c → ns ≤ 40000 + 483 * c → dy.length ≤ 4 * c → r.2.1 ≤ 3072 → CI dy (nr_ g) A → MI (nr_ g) A → SI A → LW nc ns (18, LV (6 * c), [], (hp_SH ++ dy, g, r)) := by
  intro m
  induction m with
  | zero =>
    intro c nc ns dy g r A hc hnc hns hdy hL hI hM hSI
    exact law_exit (by omega) (by omega) hL (by omega) (by show r.2.1 < _; omega)
  | succ m ih =>
    intro c nc ns dy g r A hc hnc hns hdy hL hI hM hSI
    by_cases he : r.2.1 < 6 * c + 6
    · exact law_exit (by omega) (by omega) hL (by omega) he
    · have hv0 : vp_in (nI (6 * c)) r.2.1 := nI_vi (by omega) (by omega)
      have K : ∀ (nc' ns' : Nat) (dy' : List mm_Sh) (g' : Nat → Nat → Int32) (r' : (Nat → Nat → Int64) × Nat × (Nat → Int32)) (A' : sA), nc' ≤ nc + 4 → ns' ≤ ns + 483 → r'.2 = r.2 → dy'.length ≤ dy.length + 4 → CI dy' (nr_ g') A' → MI (nr_ g') A' → SI A' → LW nc' ns' (1206, LV (6 * c), [], (hp_SH ++ dy', g', r')) := fun nc' ns' dy' g' r' A' h1 h2 h3 h4 h5 h6 h7 => by
        refine mm_B ok_La_law_17 20 2 (18, [some (.float 0), some (.ref 0), some (.ref 52), some (.int ((nI (6 * c)) + 6))], [], (hp_SH ++ dy', g', r')) [] rfl trivial ?_
        rw [show nI (6 * c) + 6 = nI (6 * (c + 1)) from nI_add (6 * c) 6]
        have e4 : 483 * (c + 1) = 483 * c + 483 := Nat.mul_add 483 c 1
        exact ih (c + 1) nc' ns' dy' g' r' A' (by omega) (by omega) (by rw [e4, ← Nat.add_assoc]; exact Nat.le_trans h2 (Nat.add_le_add_right hns 483)) (by omega) (by rw [h3]; exact hL) h5 h6 h7
      refine mm_B ok_La_law_0 10 5 (24, [some (.float 0), some (.ref 0), some (.ref 52), some (.int (nI (6 * c)))], [.int ((nI r.2.1) - 6), .int (nI (6 * c))], (hp_SH ++ dy, g, r)) [] rfl trivial ?_
      refine mm_I ok_La_law_0 15 0 24 [some (.float 0), some (.ref 0), some (.ref 52), some (.int (nI (6 * c)))] [.int ((nI r.2.1) - 6), .int (nI (6 * c))] (hp_SH ++ dy, g, r) [] rfl trivial rfl rfl (fun q => False.elim (he ((sb_ltg (n := 6) (by omega) (by decide) (by omega)).mp q))) (fun _ => ?_)
      refine mm_B ok_La_law_0 16 5 (33, [some (.float 0), some (.ref 0), some (.ref 52), some (.int (nI (6 * c)))], [.int ((r.2.2 ((nI (6 * c)).toNatClampNeg)) &&& 31)], (hp_SH ++ dy, g, r)) [vp_in (nI (6 * c)) r.2.1] rfl (show vp_in (nI (6 * c)) r.2.1 from hv0) ?_
      obtain ⟨j, hj, ej⟩ := and31 (r.2.2 (nI (6 * c)).toNatClampNeg)
      rw [ej]
      rcases (show j = 0 ∨ j = 1 ∨ j = 2 ∨ j = 3 ∨ j = 4 ∨ j = 5 ∨ j = 6 ∨ j = 7 ∨ j = 8 ∨ j = 9 ∨ j = 10 ∨ j = 11 ∨ j = 12 ∨ j = 13 ∨ j = 14 ∨ j = 15 ∨ j = 16 ∨ j = 17 ∨ j = 18 ∨ j = 19 ∨ j = 20 ∨ j = 21 ∨ j = 22 ∨ j = 23 ∨ j = 24 ∨ j = 25 ∨ j = 26 ∨ j = 27 ∨ j = 28 ∨ j = 29 ∨ j = 30 ∨ j = 31 by omega) with rfl | rfl | rfl | rfl | rfl | rfl | rfl | rfl | rfl | rfl | rfl | rfl | rfl | rfl | rfl | rfl | rfl | rfl | rfl | rfl | rfl | rfl | rfl | rfl | rfl | rfl | rfl | rfl | rfl | rfl | rfl | rfl
      · refine mm_sw (tgt := 172) (mm_at ok_La_law_0 (i := 21) rfl).1 (Or.inr ⟨by decide, _, rfl, by decide⟩) ?_
        exact lwc_lesson hI hM hSI (by omega) (by omega) (by omega) (by omega) hL K
      · refine mm_sw (tgt := 215) (mm_at ok_La_law_0 (i := 21) rfl).1 (Or.inr ⟨by decide, _, rfl, by decide⟩) ?_
        exact lwc_child hI hM hSI (by omega) (by omega) (by omega) (by omega) hL K
      · refine mm_sw (tgt := 248) (mm_at ok_La_law_0 (i := 21) rfl).1 (Or.inr ⟨by decide, _, rfl, by decide⟩) ?_
        exact lwc_set hI hM hSI (by omega) (by omega) (by omega) (by omega) hL K
      · refine mm_sw (tgt := 291) (mm_at ok_La_law_0 (i := 21) rfl).1 (Or.inr ⟨by decide, _, rfl, by decide⟩) ?_
        exact lwc_told hI hM hSI (by omega) (by omega) (by omega) (by omega) hL K
      · refine mm_sw (tgt := 324) (mm_at ok_La_law_0 (i := 21) rfl).1 (Or.inr ⟨by decide, _, rfl, by decide⟩) ?_
        exact lwc_give hI hM hSI (by omega) (by omega) (by omega) (by omega) hL K
      · refine mm_sw (tgt := 367) (mm_at ok_La_law_0 (i := 21) rfl).1 (Or.inr ⟨by decide, _, rfl, by decide⟩) ?_
        exact lwc_given hI hM hSI (by omega) (by omega) (by omega) (by omega) hL K
      · refine mm_sw (tgt := 400) (mm_at ok_La_law_0 (i := 21) rfl).1 (Or.inr ⟨by decide, _, rfl, by decide⟩) ?_
        exact lwc_feed hI hM hSI (by omega) (by omega) (by omega) (by omega) hL K
      · refine mm_sw (tgt := 423) (mm_at ok_La_law_0 (i := 21) rfl).1 (Or.inr ⟨by decide, _, rfl, by decide⟩) ?_
        exact lwc_text hI hM hSI (by omega) (by omega) (by omega) (by omega) hL K
      · refine mm_sw (tgt := 436) (mm_at ok_La_law_0 (i := 21) rfl).1 (Or.inr ⟨by decide, _, rfl, by decide⟩) ?_
        exact lwc_force hI hM hSI (by omega) (by omega) (by omega) (by omega) hL K
      · refine mm_sw (tgt := 459) (mm_at ok_La_law_0 (i := 21) rfl).1 (Or.inr ⟨by decide, _, rfl, by decide⟩) ?_
        exact lwc_has hI hM hSI (by omega) (by omega) (by omega) (by omega) hL K
      · refine mm_sw (tgt := 492) (mm_at ok_La_law_0 (i := 21) rfl).1 (Or.inr ⟨by decide, _, rfl, by decide⟩) ?_
        exact lwc_heard hI hM hSI (by omega) (by omega) (by omega) (by omega) hL K
      · refine mm_sw (tgt := 535) (mm_at ok_La_law_0 (i := 21) rfl).1 (Or.inr ⟨by decide, _, rfl, by decide⟩) ?_
        exact lwc_points hI hM hSI (by omega) (by omega) (by omega) (by omega) hL K
      · refine mm_sw (tgt := 558) (mm_at ok_La_law_0 (i := 21) rfl).1 (Or.inr ⟨by decide, _, rfl, by decide⟩) ?_
        exact lwc_best hI hM hSI (by omega) (by omega) (by omega) (by omega) hL K
      · refine mm_sw (tgt := 581) (mm_at ok_La_law_0 (i := 21) rfl).1 (Or.inr ⟨by decide, _, rfl, by decide⟩) ?_
        exact lwc_lay hI hM hSI (by omega) (by omega) (by omega) (by omega) hL K
      · refine mm_sw (tgt := 594) (mm_at ok_La_law_0 (i := 21) rfl).1 (Or.inr ⟨by decide, _, rfl, by decide⟩) ?_
        exact lwc_run hI hM hSI (by omega) (by omega) (by omega) (by omega) hL K
      · refine mm_sw (tgt := 637) (mm_at ok_La_law_0 (i := 21) rfl).1 (Or.inr ⟨by decide, _, rfl, by decide⟩) ?_
        exact lwc_twice hI hM hSI (by omega) (by omega) (by omega) (by omega) hL K
      · refine mm_sw (tgt := 670) (mm_at ok_La_law_0 (i := 21) rfl).1 (Or.inr ⟨by decide, _, rfl, by decide⟩) ?_
        exact lwc_change hI hM hSI (by omega) (by omega) (by omega) (by omega) hL K
      · refine mm_sw (tgt := 703) (mm_at ok_La_law_0 (i := 21) rfl).1 (Or.inr ⟨by decide, _, rfl, by decide⟩) ?_
        exact lwc_exam hI hM hSI (by omega) (by omega) (by omega) (by omega) hL K
      · refine mm_sw (tgt := 736) (mm_at ok_La_law_0 (i := 21) rfl).1 (Or.inr ⟨by decide, _, rfl, by decide⟩) ?_
        exact lwc_aboard hI hM hSI (by omega) (by omega) (by omega) (by omega) hL K
      · refine mm_sw (tgt := 779) (mm_at ok_La_law_0 (i := 21) rfl).1 (Or.inr ⟨by decide, _, rfl, by decide⟩) ?_
        exact lwc_together hI hM hSI (by omega) (by omega) (by omega) (by omega) hL K
      · refine mm_sw (tgt := 802) (mm_at ok_La_law_0 (i := 21) rfl).1 (Or.inr ⟨by decide, _, rfl, by decide⟩) ?_
        exact lwc_known hI hM hSI (by omega) (by omega) (by omega) (by omega) hL K
      · refine mm_sw (tgt := 825) (mm_at ok_La_law_0 (i := 21) rfl).1 (Or.inr ⟨by decide, _, rfl, by decide⟩) ?_
        exact lwc_drawn hI hM hSI (by omega) (by omega) (by omega) (by omega) hL K
      · refine mm_sw (tgt := 858) (mm_at ok_La_law_0 (i := 21) rfl).1 (Or.inr ⟨by decide, _, rfl, by decide⟩) ?_
        exact lwc_chance hI hM hSI (by omega) (by omega) (by omega) (by omega) hL K
      · refine mm_sw (tgt := 922) (mm_at ok_La_law_0 (i := 21) rfl).1 (Or.inr ⟨by decide, _, rfl, by decide⟩) ?_
        exact lwc_image hI hM hSI (by omega) (by omega) (by omega) (by omega) hL K
      · refine mm_sw (tgt := 935) (mm_at ok_La_law_0 (i := 21) rfl).1 (Or.inr ⟨by decide, _, rfl, by decide⟩) ?_
        exact lwc_back hI hM hSI (by omega) (by omega) (by omega) (by omega) hL K
      · refine mm_sw (tgt := 948) (mm_at ok_La_law_0 (i := 21) rfl).1 (Or.inr ⟨by decide, _, rfl, by decide⟩) ?_
        exact lwc_count hI hM hSI (by omega) (by omega) (by omega) (by omega) hL K
      · refine mm_sw (tgt := 971) (mm_at ok_La_law_0 (i := 21) rfl).1 (Or.inr ⟨by decide, _, rfl, by decide⟩) ?_
        exact lwc_sheet hI hM hSI (by omega) (by omega) (by omega) (by omega) hL K
      · refine mm_sw (tgt := 1014) (mm_at ok_La_law_0 (i := 21) rfl).1 (Or.inr ⟨by decide, _, rfl, by decide⟩) ?_
        exact lwc_cell hI hM hSI (by omega) (by omega) (by omega) (by omega) hL K
      · refine mm_sw (tgt := 1057) (mm_at ok_La_law_0 (i := 21) rfl).1 (Or.inr ⟨by decide, _, rfl, by decide⟩) ?_
        exact lwc_copy hI hM hSI (by omega) (by omega) (by omega) (by omega) hL K
      · refine mm_sw (tgt := 1120) (mm_at ok_La_law_0 (i := 21) rfl).1 (Or.inr ⟨by decide, _, rfl, by decide⟩) ?_
        exact lwc_children hI hM hSI (by omega) (by omega) (by omega) (by omega) hL K
      · refine mm_sw (tgt := 1173) (mm_at ok_La_law_0 (i := 21) rfl).1 (Or.inr ⟨by decide, _, rfl, by decide⟩) ?_
        exact lwc_taken hI hM hSI (by omega) (by omega) (by omega) (by omega) hL K
      · refine mm_sw (tgt := 1206) (mm_at ok_La_law_0 (i := 21) rfl).1 (Or.inl ⟨by decide, by decide⟩) ?_
        exact K nc ns dy g r A (by omega) (by omega) rfl (by omega) hI hM hSI
theorem law_start (g : Nat → Nat → Int32) (r : (Nat → Nat → Int64) × Nat × (Nat → Int32)) (hr : ∀ k j, r.1 k j = 0) (hZ : ∀ k j, 0 ≤ k → g k j = 0) (hL : r.2.1 ≤ 3072) : LW 0 0 (0, [some (.float 0), none, none, none], [], ([], g, r)) := by
  refine mm_new (ci := 11) (h := (hs_135, g, r)) rfl (by decide +kernel) kl_La_7 ib_Sc ii_Sc (mm_at ok_La_law_0 (i := 0) rfl).1 ⟨Nat.le_of_ble_eq_true rfl, Nat.le_of_ble_eq_true rfl⟩ (wf_0 (by decide +kernel)) (mm_vs_b (b := 0) rfl (Nat.le_of_ble_eq_true rfl)) ?_
  rw [mm_ad_z (n := 0) rfl (fun j => by exact hZ 0 j (by omega)) hr]
  show mm_W _ _ _ _ _ _ _ (3, [some (.float 0), none, none, none], [.ref 0], (hs_72, g, r))
  refine mm_B ok_La_law_0 1 1 (4, [some (.float 0), none, none, none], [.ref 0, .ref 0], (hs_72, g, r)) [] rfl trivial ?_
  refine mm_cI (as := []) (st := [.ref 0]) (q := 0) cw_Sc_init lk_La_9 in_Sc_init ⟨rfl, rfl⟩ (mm_at ok_La_law_0 (i := 2) rfl).1 (ct_Sc_init g r hr (fun k j h => by exact hZ k j (by omega))) (by decide) ⟨Nat.le_of_ble_eq_true rfl, Nat.le_of_ble_eq_true rfl⟩ (Nat.le_of_ble_eq_true rfl) (mm_vs_b (b := 1) rfl (Nat.le_of_ble_eq_true rfl)) (fun v h' hqq => ?_)
  obtain ⟨rfl, g1, hqe, hf1, z1, f0_z, f0_p, f0_o, f0_t, f0_x, f0_k0, f0_k1, f0_k2, f0_k3, f0_k4, f0_k5, f0_h, f0_w, f0_r, f0_b, f0_c, f0_s, f0_q, f0_i, f0_m, f0_n, f0_v⟩ := hqq; rw [hqe]
  have rel1 : ∀ a j, (a < 0 ∨ 52 ≤ a) → g1 a j = g a j := fun a j h => h.elim (hf1 a j) (fun h => (z1 a j h).trans (by exact (hZ a j (by omega)).symm))
  refine mm_B ok_La_law_0 3 1 (8, [some (.float 0), some (.ref 0), none, none], [], (hs_86, g1, r)) [] rfl trivial ?_
  refine mm_new (ci := 12) (h := (hs_86, g1, r)) rfl (by decide +kernel) kl_La_10 ib_Mo ii_Mo (mm_at ok_La_law_0 (i := 4) rfl).1 ⟨Nat.le_of_ble_eq_true rfl, Nat.le_of_ble_eq_true rfl⟩ (wf_3 (by decide +kernel) (fun i => by exact Nat.le_trans (f0_b i) (Nat.le_of_ble_eq_true rfl)) (fun i => by exact Nat.le_trans (f0_c i) (Nat.le_of_ble_eq_true rfl)) (fun i => by exact Nat.le_trans (f0_n i) (Nat.le_of_ble_eq_true rfl))) (mm_vs_b (b := 52) rfl (Nat.le_of_ble_eq_true rfl)) ?_
  rw [mm_ad_z (n := 52) rfl (fun j => by rw [rel1 _ _ (by omega)]; exact hZ 52 j (by omega)) hr]
  show mm_W _ _ _ _ _ _ _ (11, [some (.float 0), some (.ref 0), none, none], [.ref 52], (hs_87, g1, r))
  refine mm_B ok_La_law_0 5 1 (12, [some (.float 0), some (.ref 0), none, none], [.ref 52, .ref 52], (hs_87, g1, r)) [] rfl trivial ?_
  refine mm_cI (as := []) (st := [.ref 52]) (q := 52) cw_Mo_init lk_La_12 in_Mo_init ⟨rfl, rfl⟩ (mm_at ok_La_law_0 (i := 6) rfl).1 (ct_Mo_init g1 r hr (fun k j h => by rw [rel1 _ _ (by omega)]; exact hZ k j (by omega)) (fun i => by exact f0_b i) (fun i => by exact f0_c i) (fun i => by exact f0_n i)) (by decide) ⟨Nat.le_of_ble_eq_true rfl, Nat.le_of_ble_eq_true rfl⟩ (Nat.le_of_ble_eq_true rfl) (mm_vs_b (b := 53) rfl (Nat.le_of_ble_eq_true rfl)) (fun v h' hqq => ?_)
  obtain ⟨rfl, g2, hqe, rel2, t0, t8, t16, t24, h54, h3, h62, h42, h4, h6, h10, h14, h73⟩ := hqq; rw [hqe]
  refine mm_B ok_La_law_0 7 3 (18, [some (.float 0), some (.ref 0), some (.ref 52), some (.int 0)], [], (hp_SH, g2, r)) [] rfl trivial ?_
  have hk : ∀ j, j < 6 → g2 12 j = nI (20 + j) := fun j hj => by
    rcases (show j = 0 ∨ j = 1 ∨ j = 2 ∨ j = 3 ∨ j = 4 ∨ j = 5 by omega) with rfl | rfl | rfl | rfl | rfl | rfl
    · rw [rel2 _ _ (by omega)]; exact f0_k0
    · rw [rel2 _ _ (by omega)]; exact f0_k1
    · rw [rel2 _ _ (by omega)]; exact f0_k2
    · rw [rel2 _ _ (by omega)]; exact f0_k3
    · rw [rel2 _ _ (by omega)]; exact f0_k4
    · rw [rel2 _ _ (by omega)]; exact f0_k5
  have hI : CI [] (nr_ g2) A0 := CI0 (g := g2) (fun j => by rw [rel2 _ _ (by omega)]; exact f0_z j) (fun j hj => by rw [rel2 _ _ (by omega)]; exact f0_p j hj) (fun j hj => by rw [rel2 _ _ (by omega)]; exact f0_o j hj) (by rw [rel2 _ _ (by omega)]; exact f0_t) (by rw [rel2 _ _ (by omega)]; exact f0_x) hk
    (by rw [rel2 _ _ (by omega)]; exact f0_h) (by rw [rel2 _ _ (by omega)]; exact f0_w) (by rw [rel2 _ _ (by omega)]; exact f0_r) (fun i => by rw [rel2 _ _ (by omega)]; exact f0_b i) (fun i => by rw [rel2 _ _ (by omega)]; exact f0_c i) (fun j => by rw [rel2 _ _ (by omega)]; exact f0_s j) (fun j => by rw [rel2 _ _ (by omega)]; exact f0_q j) (by rw [rel2 _ _ (by omega)]; exact f0_i) (fun b hb => by rw [rel2 _ _ (by omega)]; exact f0_m b hb) (fun i => by rw [rel2 _ _ (by omega)]; exact f0_n i) (fun j hj => by rw [rel2 _ _ (by omega)]; exact f0_v j hj)
  have hM : MI (nr_ g2) A0 := MI0 (g := g2) (B0_at t0 t8 t16 t24) h54 h3 h62 h42 h4 h6 h10 h14 h73
  have h := fun nc ns h1 h2 => law_loop 512 0 nc ns [] g2 r A0 rfl h1 h2 (Nat.zero_le _) hL hI hM SI0
  rw [List.append_nil] at h
  refine h _ _ ?_ ?_
  · exact Nat.le_of_ble_eq_true rfl
  · exact Nat.le_of_ble_eq_true rfl
