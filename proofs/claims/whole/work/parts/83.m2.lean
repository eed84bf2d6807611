/-! ===== the model's calls: known, together, count, told, taken ===== -/
theorem ev6' : ∀ n, n ≤ 6 → 1 <<< (nI n &&& 31) = nI (2 ^ n) := by decide
theorem ev_bit : ∀ n, n ≤ 6 → ∀ k, k < n → (2 ^ n - 1) / 2 ^ k % 2 = 1 := by decide
theorem sh_0 : ∀ n, n < 6 → ∀ m, m < 2 ^ n → nI m ||| (nI 0 <<< (nI n &&& 31)) = nI m := by decide
theorem eo_tl {E : Nat → Nat} {who N : Nat} (hw : who < 2 ^ N) : ∀ m, eo_ E who (N + m) = eo_ E who N
  | 0 => rfl
  | m + 1 => by
    show (if who / 2 ^ (N + m) % 2 = 0 then eo_ E who (N + m) else _) = _
    rw [if_pos (hb_of hw (by omega)), eo_tl hw m]
theorem eo_6 {E : Nat → Nat} {who N : Nat} (hw : who < 2 ^ N) (hN : N ≤ 6) : eo_ E who 6 = eo_ E who N := by
  rw [show 6 = N + (6 - N) by omega]
  exact eo_tl hw _
theorem ah_go (dy : List mm_Sh) (g : Nat → Nat → Int32) (r : (Nat → Nat → Int64) × Nat × (Nat → Int32)) {A : sA} (hI : MI (nr_ g) A) (hSI : SI A) : ∀ (m k : Nat) (g2 : Nat → Nat → Int32) (r2 : (Nat → Nat → Int64) × Nat × (Nat → Int32)), k + m = A.2.1.1 → r2.2 = r.2 → fr_ mz_ g g2 → nh_ (aC A) A.2.1.2.2.2 g2 → (∀ b, b < 6 → g2 67 b = pl_c (A.2.2.1.1 b)) → (∀ c, c < k → g2 71 c = nI (tE A c)) → mm_W 70 M_Mo_allHave 0 0 (fun v h' => v = some (.int (nI (tAll A))) ∧ ∃ g' r', h' = (hp_SH ++ dy, g', r') ∧ r'.2 = r.2 ∧ fr_ mz_ g g' ∧ ∀ c, c < A.2.1.1 → g' 71 c = nI (tE A c)) 0 0 (12, [some (.ref 52), some (.int (nI (eo_ (tE A) (2 ^ A.2.1.1 - 1) k))), some (.int (nI k))], [], (hp_SH ++ dy, g2, r2)) := by
  have hI' := hI
  obtain ⟨hL, hK, hPl, hX, hB, hS, hIm⟩ := hI'
  have hR := dX_R hX
  have h4 := hL.2.1
  have h6 := hK.2.1
  have h64 := p2_64 h6
  have hpo : ∀ b l, b < 6 → A.2.2.1.1 b = some l → l < A.1.1 := fun b l hb h => hSI.1 b l hb (Or.inl h)
  intro m
  induction m with
  | zero =>
    intro k g2 r2 hk hr hF hnh h67 h71
    have e14 : g2 52 14 = nI A.2.1.1 := by rw [nr_at (hF.nr mz_nr (rfl : nr_ g = nr_ g)) 52 14 rfl]; exact hK.1
    rw [show k = A.2.1.1 by omega, ← eo_6 (E := tE A) (show 2 ^ A.2.1.1 - 1 < 2 ^ A.2.1.1 by omega) h6]
    refine mm_B ok_Mo_allHave 8 3 (17, [some (.ref 52), some (.int (nI (eo_ (tE A) (2 ^ A.2.1.1 - 1) 6))), some (.int (nI A.2.1.1))], [.int (g2 52 14), .int (nI A.2.1.1)], (hp_SH ++ dy, g2, r2)) [] rfl trivial ?_
    rw [e14]
    refine mm_I ok_Mo_allHave 11 0 17 [some (.ref 52), some (.int (nI (eo_ (tE A) (2 ^ A.2.1.1 - 1) 6))), some (.int (nI A.2.1.1))] [.int (nI A.2.1.1), .int (nI A.2.1.1)] (hp_SH ++ dy, g2, r2) [] rfl trivial rfl rfl (fun _ => ?_) (fun q => False.elim (q (nI_le (Nat.le_refl _) (by omega))))
    refine mm_B ok_Mo_allHave 40 1 (65, [some (.ref 52), some (.int (nI (eo_ (tE A) (2 ^ A.2.1.1 - 1) 6))), some (.int (nI A.2.1.1))], [.int (nI (eo_ (tE A) (2 ^ A.2.1.1 - 1) 6))], (hp_SH ++ dy, g2, r2)) [] rfl trivial ?_
    exact mm_ri rfl (mm_at ok_Mo_allHave (i := 41) rfl).1 ⟨Nat.le_refl _, Nat.le_refl _⟩ (⟨rfl, g2, r2, rfl, hr, hF, fun c hc => h71 c (by omega)⟩)
  | succ m ih =>
    intro k g2 r2 hk hr hF hnh h67 h71
    have hP2 := hF.nr mz_nr (rfl : nr_ g = nr_ g)
    obtain ⟨k1, k2, k3, k4, k5⟩ := hK.2.2 k (by omega)
    have e14 : g2 52 14 = nI A.2.1.1 := by rw [nr_at hP2 52 14 rfl]; exact hK.1
    have e59 : g2 59 (nI k).toNatClampNeg = nI (A.2.1.2.1 k) := by rw [nI_clamp (by omega), nr_at hP2 59 k rfl]; exact k1
    have e60 : g2 60 (nI k).toNatClampNeg = nI (A.2.1.2.2.1 k) := by rw [nI_clamp (by omega), nr_at hP2 60 k rfl]; exact k2
    have hlt := eo_lt (who := 2 ^ A.2.1.1 - 1) (tE_lt (A := A) h4) k
    refine mm_B ok_Mo_allHave 8 3 (17, [some (.ref 52), some (.int (nI (eo_ (tE A) (2 ^ A.2.1.1 - 1) k))), some (.int (nI k))], [.int (g2 52 14), .int (nI k)], (hp_SH ++ dy, g2, r2)) [] rfl trivial ?_
    rw [e14]
    refine mm_I ok_Mo_allHave 11 0 17 [some (.ref 52), some (.int (nI (eo_ (tE A) (2 ^ A.2.1.1 - 1) k))), some (.int (nI k))] [.int (nI A.2.1.1), .int (nI k)] (hp_SH ++ dy, g2, r2) [] rfl trivial rfl rfl (fun q => False.elim (nI_ge (show k < A.2.1.1 by omega) (by omega) q)) (fun _ => ?_)
    refine mm_B ok_Mo_allHave 12 10 (34, [some (.ref 52), some (.int (nI (eo_ (tE A) (2 ^ A.2.1.1 - 1) k))), some (.int (nI k))], [.int (g2 60 ((nI k).toNatClampNeg)), .int (g2 59 ((nI k).toNatClampNeg)), .int (nI k), .ref 52], (hp_SH ++ dy, g2, r2)) [vp_in (nI k) 6, vp_in (nI k) 6] rfl (show (vp_in (nI k) 6) ∧ (vp_in (nI k) 6) from ⟨(nI_vi (by omega) (by decide)), (nI_vi (by omega) (by decide))⟩) ?_
    rw [e59, e60]
    refine mm_cV (as := [.int (nI k), .int (nI (A.2.1.2.1 k)), .int (nI (A.2.1.2.2.1 k))]) (st := []) (q := 52) cw_Mo_spring lk_Mo_288 in_Mo_spring sl_Mo_spring rfl rfl (mm_at ok_Mo_allHave (i := 22) rfl).1 (ct_Mo_spring dy g2 (nr_ g) r2 hP2 hR hL (ag := A.2.1.2.2.2) (c := k) (on := A.2.1.2.1 k) (off := A.2.1.2.2.1 k) (by omega) (by omega) (by omega) h67 hpo k5 hnh) (by decide) ⟨by omega, by omega⟩ (Nat.le_of_ble_eq_true rfl) (mm_vs_b (b := 77) rfl (hp_len dy)) (fun v h' hqq => ?_)
    obtain ⟨rfl, g3, r3, hqe, hr3, hF3, h364, hnh3, hrw, h68⟩ := hqq; rw [hqe]
    have hE : g3 68 5 = nI (tE A k) := h68 5 (by decide)
    refine mm_B ok_Mo_allHave 23 17 (12, [some (.ref 52), some (.int ((nI (eo_ (tE A) (2 ^ A.2.1.1 - 1) k)) ||| ((mm_up g3 71 ((nI k).toNatClampNeg) (g3 68 5)) 71 ((nI k).toNatClampNeg)))), some (.int ((nI k) + 1))], [], (hp_SH ++ dy, mm_up g3 71 ((nI k).toNatClampNeg) (g3 68 5), r3)) [vp_in 5 6, vp_in (nI k) 6, vp_in (nI k) 6] rfl (show (vp_in 5 6) ∧ (vp_in (nI k) 6) ∧ (vp_in (nI k) 6) from ⟨(by first | exact mm_vi rfl | assumption | decide), (nI_vi (by omega) (by decide)), (nI_vi (by omega) (by decide))⟩) ?_
    rw [hE, nI_1, nI_clamp (show k < 2 ^ 31 by omega), mm_up_at, or_16 _ hlt _ (tE_lt h4 k)]
    have h8 := ih (k + 1) (mm_up g3 71 k (nI (tE A k))) r3 (by omega) (hr3.trans hr) ((hF.tr (hF3.mono mz_mp)).up _ rfl) (nh_fr hnh3 (fun _ => rfl)) (fun b hb => (hF3 67 b rfl).trans (h67 b hb)) (fun c hc => by
      by_cases e : c = k
      · rw [e, mm_up_at]
      · rw [mm_up_no e, hF3 71 c rfl]; exact h71 c (by omega))
    rw [show eo_ (tE A) (2 ^ A.2.1.1 - 1) (k + 1) = (if (2 ^ A.2.1.1 - 1) / 2 ^ k % 2 = 0 then eo_ (tE A) (2 ^ A.2.1.1 - 1) k else eo_ (tE A) (2 ^ A.2.1.1 - 1) k ||| tE A k) from rfl, if_neg (by rw [ev_bit _ h6 k (by omega)]; decide)] at h8
    exact h8
theorem ct_Mo_allHave (dy : List mm_Sh) (g : Nat → Nat → Int32) (r : (Nat → Nat → Int64) × Nat × (Nat → Int32)) {A : sA} (hI : MI (nr_ g) A) (hSI : SI A) : mm_Ct 70 M_Mo_allHave [.ref 52] (hp_SH ++ dy, g, r) 0 0 (fun v h' => v = some (.int (nI (tAll A))) ∧ ∃ g' r', h' = (hp_SH ++ dy, g', r') ∧ r'.2 = r.2 ∧ fr_ mz_ g g' ∧ ∀ c, c < A.2.1.1 → g' 71 c = nI (tE A c)) := by
  have hI' := hI
  obtain ⟨hL, hK, hPl, hX, hB, hS, hIm⟩ := hI'
  have hR := dX_R hX
  have h4 := hL.2.1
  have h6 := hK.2.1
  have e10 : g 52 10 = nI A.1.1 := by rw [← nr_eq g (k := 52) (j := 10) rfl]; exact hL.1
  have e14 : g 52 14 = nI A.2.1.1 := by rw [← nr_eq g (k := 52) (j := 14) rfl]; exact hK.1
  have hpl : ∀ b, b < 6 → g 62 b = pl_c (A.2.2.1.1 b) := fun b hb => by rw [← nr_eq g (k := 62) (j := b) rfl]; exact (hPl b hb).1
  have hot : ∀ b, b < 6 → g 62 (6 + b) = pl_c (A.2.2.1.2 b) := fun b hb => by rw [← nr_eq g (k := 62) (j := 6 + b) rfl]; exact (hPl b hb).2
  have hpo : ∀ b l, b < 6 → A.2.2.1.1 b = some l → l < A.1.1 := fun b l hb h => hSI.1 b l hb (Or.inl h)
  refine mm_start pl_Mo (Nat.le_of_ble_eq_true rfl) ?_
  refine mm_B ok_Mo_allHave 0 1 (1, [some (.ref 52), none, none], [.ref 52], (hp_SH ++ dy, g, r)) [] rfl trivial ?_
  refine mm_cV (as := []) (st := []) (q := 52) cw_Mo_forgets lk_Mo_298 in_Mo_forgets sl_Mo_forgets rfl rfl (mm_at ok_Mo_allHave (i := 1) rfl).1 (ct_Mo_forgets dy g r) (by decide) ⟨by omega, by omega⟩ (Nat.le_of_ble_eq_true rfl) (mm_vs_b (b := 77) rfl (hp_len dy)) (fun v h' hqq => ?_)
  obtain ⟨rfl, g1, hqe, hF1, h63, h64⟩ := hqq; rw [hqe]
  refine mm_B ok_Mo_allHave 2 1 (5, [some (.ref 52), none, none], [.ref 52], (hp_SH ++ dy, g1, r)) [] rfl trivial ?_
  refine mm_cV (as := []) (st := []) (q := 52) cw_Mo_takesPlan lk_Mo_301 in_Mo_takesPlan sl_Mo_takesPlan rfl rfl (mm_at ok_Mo_allHave (i := 3) rfl).1 (ct_Mo_takesPlan dy g1 r) (by decide) ⟨by omega, by omega⟩ (Nat.le_of_ble_eq_true rfl) (mm_vs_b (b := 77) rfl (hp_len dy)) (fun v h' hqq => ?_)
  obtain ⟨rfl, g2, hqe, hF2, h67⟩ := hqq; rw [hqe]
  obtain ⟨hF, hnh, hnw, h67'⟩ := beg_ok (C := aC A) (ag := A.2.1.2.2.2) hF1 h63 h64 hF2 h67 hpl
  have hP2 := hF.nr mz_nr (rfl : nr_ g = nr_ g)
  refine mm_B ok_Mo_allHave 4 4 (12, [some (.ref 52), some (.int 0), some (.int 0)], [], (hp_SH ++ dy, g2, r)) [] rfl trivial ?_
  exact ah_go dy g r hI hSI A.2.1.1 0 g2 r (Nat.zero_add _) rfl hF hnh h67' (fun c hc => absurd hc (Nat.not_lt_zero c))
theorem kn_go (dy : List mm_Sh) (g g1 : Nat → Nat → Int32) (r r1 : (Nat → Nat → Int64) × Nat × (Nat → Int32)) {A : sA} (hI : MI (nr_ g) A) {l : Nat} (hl : l < A.1.1) (hr : r1.2 = r.2) (hF : fr_ mz_ g g1) (h71 : ∀ c, c < A.2.1.1 → g1 71 c = nI (tE A c)) : ∀ (m k : Nat), k + m = A.2.1.1 → mm_W 75 M_Mo_known 0 0 (RM dy g r A (.int (nI (sp_sum (sp_whb A.1 (aC A) A.2.1 A.2.2.1.1 l) A.2.1.1)))) 0 0 (20, [some (.ref 52), some (.int (nI l)), some (.int (nI (sp_sum (sp_whb A.1 (aC A) A.2.1 A.2.2.1.1 l) k))), some (.int (nI k))], [], (hp_SH ++ dy, g1, r1)) := by
  have hI' := hI
  obtain ⟨hL, hK, hPl, hX, hB, hS, hIm⟩ := hI'
  have h4 := hL.2.1
  have h6 := hK.2.1
  have e14 : g1 52 14 = nI A.2.1.1 := by rw [nr_at (hF.nr mz_nr (rfl : nr_ g = nr_ g)) 52 14 rfl]; exact hK.1
  intro m
  induction m with
  | zero =>
    intro k hk
    rw [show k = A.2.1.1 by omega]
    refine mm_B ok_Mo_known 13 3 (25, [some (.ref 52), some (.int (nI l)), some (.int (nI (sp_sum (sp_whb A.1 (aC A) A.2.1 A.2.2.1.1 l) A.2.1.1))), some (.int (nI A.2.1.1))], [.int (g1 52 14), .int (nI A.2.1.1)], (hp_SH ++ dy, g1, r1)) [] rfl trivial ?_
    rw [e14]
    refine mm_I ok_Mo_known 16 0 25 [some (.ref 52), some (.int (nI l)), some (.int (nI (sp_sum (sp_whb A.1 (aC A) A.2.1 A.2.2.1.1 l) A.2.1.1))), some (.int (nI A.2.1.1))] [.int (nI A.2.1.1), .int (nI A.2.1.1)] (hp_SH ++ dy, g1, r1) [] rfl trivial rfl rfl (fun _ => ?_) (fun q => False.elim (q (nI_le (Nat.le_refl _) (by omega))))
    refine mm_B ok_Mo_known 32 1 (50, [some (.ref 52), some (.int (nI l)), some (.int (nI (sp_sum (sp_whb A.1 (aC A) A.2.1 A.2.2.1.1 l) A.2.1.1))), some (.int (nI A.2.1.1))], [.int (nI (sp_sum (sp_whb A.1 (aC A) A.2.1 A.2.2.1.1 l) A.2.1.1))], (hp_SH ++ dy, g1, r1)) [] rfl trivial ?_
    exact mm_ri rfl (mm_at ok_Mo_known (i := 33) rfl).1 ⟨Nat.le_refl _, Nat.le_refl _⟩ (RM_q hr hI (hF.mono dz_mz))
  | succ m ih =>
    intro k hk
    have hlt := sp_sum_lt (sp_whb A.1 (aC A) A.2.1 A.2.2.1.1 l) sp_whb_or k
    have h8 := ih (k + 1) (by omega)
    rw [show sp_sum (sp_whb A.1 (aC A) A.2.1 A.2.2.1.1 l) (k + 1) = sp_sum (sp_whb A.1 (aC A) A.2.1 A.2.2.1.1 l) k + (if tE A k / 2 ^ l % 2 = 0 then 0 else 2 ^ k) from rfl] at h8
    generalize hst : sp_sum (sp_whb A.1 (aC A) A.2.1 A.2.2.1.1 l) k = st at h8 hlt ⊢
    refine mm_B ok_Mo_known 13 3 (25, [some (.ref 52), some (.int (nI l)), some (.int (nI st)), some (.int (nI k))], [.int (g1 52 14), .int (nI k)], (hp_SH ++ dy, g1, r1)) [] rfl trivial ?_
    rw [e14]
    refine mm_I ok_Mo_known 16 0 25 [some (.ref 52), some (.int (nI l)), some (.int (nI st)), some (.int (nI k))] [.int (nI A.2.1.1), .int (nI k)] (hp_SH ++ dy, g1, r1) [] rfl trivial rfl rfl (fun q => False.elim (nI_ge (show k < A.2.1.1 by omega) (by omega) q)) (fun _ => ?_)
    refine mm_B ok_Mo_known 17 15 (20, [some (.ref 52), some (.int (nI l)), some (.int ((nI st) ||| ((((g1 71 ((nI k).toNatClampNeg)) >>> ((nI l) &&& 31)) &&& 1) <<< ((nI k) &&& 31)))), some (.int ((nI k) + 1))], [], (hp_SH ++ dy, g1, r1)) [vp_in (nI k) 6] rfl (show vp_in (nI k) 6 from (nI_vi (by omega) (by decide))) ?_
    rw [nI_1, nI_clamp (show k < 2 ^ 31 by omega), h71 k (by omega), bt_tst _ (tE_lt h4 k) l (by omega)]
    have h2 := Nat.mod_lt (tE A k / 2 ^ l) (show 0 < 2 by decide)
    rcases (show tE A k / 2 ^ l % 2 = 0 ∨ tE A k / 2 ^ l % 2 = 1 by omega) with h | h
    · rw [h, sh_0 k (by omega) _ hlt]
      rw [if_pos h] at h8
      exact h8
    · rw [h, show nI 1 = 1 from rfl, bt_bit6 k (by omega) _ hlt]
      rw [if_neg (by rw [h]; decide)] at h8
      exact h8
theorem cm_known (dy : List mm_Sh) (g : Nat → Nat → Int32) (r : (Nat → Nat → Int64) × Nat × (Nat → Int32)) {A : sA} (hI : MI (nr_ g) A) (hSI : SI A) (l : Int32) : mm_Ct 75 M_Mo_known [.ref 52, .int l] (hp_SH ++ dy, g, r) 0 0 (RM dy g r A (.int (an_known A l))) := by
  have hI' := hI
  obtain ⟨hL, hK, hPl, hX, hB, hS, hIm⟩ := hI'
  have hR := dX_R hX
  have h4 := hL.2.1
  have h6 := hK.2.1
  have e10 : g 52 10 = nI A.1.1 := by rw [← nr_eq g (k := 52) (j := 10) rfl]; exact hL.1
  have e14 : g 52 14 = nI A.2.1.1 := by rw [← nr_eq g (k := 52) (j := 14) rfl]; exact hK.1
  have hpl : ∀ b, b < 6 → g 62 b = pl_c (A.2.2.1.1 b) := fun b hb => by rw [← nr_eq g (k := 62) (j := b) rfl]; exact (hPl b hb).1
  have hot : ∀ b, b < 6 → g 62 (6 + b) = pl_c (A.2.2.1.2 b) := fun b hb => by rw [← nr_eq g (k := 62) (j := 6 + b) rfl]; exact (hPl b hb).2
  have hpo : ∀ b l, b < 6 → A.2.2.1.1 b = some l → l < A.1.1 := fun b l hb h => hSI.1 b l hb (Or.inl h)
  refine mm_start pl_Mo (Nat.le_of_ble_eq_true rfl) ?_
  cases hx1 : ix_ A.1.1 l with
  | none =>
    rw [show an_known A l = (-2) by unfold an_known; rw [hx1]]
    refine mm_B ok_Mo_known 0 2 (2, [some (.ref 52), some (.int l), none, none], [.int l, .ref 52], (hp_SH ++ dy, g, r)) [] rfl trivial ?_
    refine mm_cV (as := [.int l]) (st := []) (q := 52) cw_Mo_isLesson lk_Mo_117 in_Mo_isLesson sl_Mo_isLesson rfl rfl (mm_at ok_Mo_known (i := 2) rfl).1 (ct_Mo_isLesson dy g r l) (by decide) ⟨by omega, by omega⟩ (Nat.le_of_ble_eq_true rfl) (mm_vs_b (b := 77) rfl (hp_len dy)) (fun v h' hqq => ?_)
    obtain ⟨rfl, hqe⟩ := hqq; rw [hqe]
    rw [ml_x (by omega) e10 l, hx1]
    refine mm_I ok_Mo_known 3 0 5 [some (.ref 52), some (.int l), none, none] [.int (iz_ none)] (hp_SH ++ dy, g, r) [] rfl trivial rfl rfl (fun q => False.elim (q rfl)) (fun _ => ?_)
    refine mm_B ok_Mo_known 4 1 (10, [some (.ref 52), some (.int l), none, none], [.int (-2)], (hp_SH ++ dy, g, r)) [] rfl trivial ?_
    exact mm_ri rfl (mm_at ok_Mo_known (i := 5) rfl).1 ⟨Nat.le_refl _, Nat.le_refl _⟩ (RM_q rfl hI fr_.rf)
  | some i =>
    obtain ⟨hl1, rfl⟩ := ix_some (by omega) hx1
    rw [show an_known A (nI i) = nI (sp_sum (sp_whb A.1 (aC A) A.2.1 A.2.2.1.1 i) A.2.1.1) from by unfold an_known; rw [hx1]]
    refine mm_B ok_Mo_known 0 2 (2, [some (.ref 52), some (.int (nI i)), none, none], [.int (nI i), .ref 52], (hp_SH ++ dy, g, r)) [] rfl trivial ?_
    refine mm_cV (as := [.int (nI i)]) (st := []) (q := 52) cw_Mo_isLesson lk_Mo_117 in_Mo_isLesson sl_Mo_isLesson rfl rfl (mm_at ok_Mo_known (i := 2) rfl).1 (ct_Mo_isLesson dy g r (nI i)) (by decide) ⟨by omega, by omega⟩ (Nat.le_of_ble_eq_true rfl) (mm_vs_b (b := 77) rfl (hp_len dy)) (fun v h' hqq => ?_)
    obtain ⟨rfl, hqe⟩ := hqq; rw [hqe]
    rw [ml_x (by omega) e10 (nI i), ix_at hl1 (by omega)]
    refine mm_I ok_Mo_known 3 0 5 [some (.ref 52), some (.int (nI i)), none, none] [.int (iz_ (some i))] (hp_SH ++ dy, g, r) [] rfl trivial rfl rfl (fun _ => ?_) (fun q => False.elim (one0 q))
    refine mm_B ok_Mo_known 6 1 (12, [some (.ref 52), some (.int (nI i)), none, none], [.ref 52], (hp_SH ++ dy, g, r)) [] rfl trivial ?_
    refine mm_cV (as := []) (st := []) (q := 52) cw_Mo_allHave lk_Mo_332 in_Mo_allHave sl_Mo_allHave rfl rfl (mm_at ok_Mo_known (i := 7) rfl).1 (ct_Mo_allHave dy g r hI hSI) (by decide) ⟨by omega, by omega⟩ (Nat.le_of_ble_eq_true rfl) (mm_vs_b (b := 77) rfl (hp_len dy)) (fun v h' hqq => ?_)
    obtain ⟨rfl, g1, r1, hqe, hr1, hF1, h71⟩ := hqq; rw [hqe]
    refine mm_B ok_Mo_known 8 5 (20, [some (.ref 52), some (.int (nI i)), some (.int 0), some (.int 0)], [], (hp_SH ++ dy, g1, r1)) [] rfl trivial ?_
    exact kn_go dy g g1 r r1 hI hl1 hr1 hF1 h71 A.2.1.1 0 (Nat.zero_add _)
theorem mt_in (dy : List mm_Sh) (g1 : Nat → Nat → Int32) (r1 : (Nat → Nat → Int64) × Nat × (Nat → Int32)) {E : Nat → Nat} {N who : Nat} (hE : ∀ c, E c < 16) (hN : N ≤ 6) (e14 : g1 52 14 = nI N) (h71 : ∀ c, c < N → g1 71 c = nI (E c)) (hw : who < 2 ^ N) {Q : Option Value → mm_Hp → Prop} {w al f1 : Int32} (hnx : mm_W 75 M_Mo_together 0 0 Q 0 0 (90, [some (.ref 52), some (.int w), some (.int al), some (.int f1), some (.int (nI who)), some (.int (nI (eo_ E who N))), some (.int (nI N))], [], (hp_SH ++ dy, g1, r1))) : ∀ (m k : Nat), k + m = N → mm_W 75 M_Mo_together 0 0 Q 0 0 (48, [some (.ref 52), some (.int w), some (.int al), some (.int f1), some (.int (nI who)), some (.int (nI (eo_ E who k))), some (.int (nI k))], [], (hp_SH ++ dy, g1, r1)) := by
  have h64 := p2_64 hN
  intro m
  induction m with
  | zero =>
    intro k hk
    rw [show k = N by omega]
    refine mm_B ok_Mo_together 29 3 (54, [some (.ref 52), some (.int w), some (.int al), some (.int f1), some (.int (nI who)), some (.int (nI (eo_ E who N))), some (.int (nI N))], [.int (g1 52 14), .int (nI N)], (hp_SH ++ dy, g1, r1)) [] rfl trivial ?_
    rw [e14]
    refine mm_I ok_Mo_together 32 0 54 [some (.ref 52), some (.int w), some (.int al), some (.int f1), some (.int (nI who)), some (.int (nI (eo_ E who N))), some (.int (nI N))] [.int (nI N), .int (nI N)] (hp_SH ++ dy, g1, r1) [] rfl trivial rfl rfl (fun _ => ?_) (fun q => False.elim (q (nI_le (Nat.le_refl _) (by omega))))
    exact hnx
  | succ m ih =>
    intro k hk
    have h8 := ih (k + 1) (by omega)
    rw [show eo_ E who (k + 1) = (if who / 2 ^ k % 2 = 0 then eo_ E who k else eo_ E who k ||| E k) from rfl] at h8
    have hlt := eo_lt (who := who) hE k
    generalize hst : eo_ E who k = st at h8 hlt ⊢
    have h2 := Nat.mod_lt (who / 2 ^ k) (show 0 < 2 by decide)
    refine mm_B ok_Mo_together 29 3 (54, [some (.ref 52), some (.int w), some (.int al), some (.int f1), some (.int (nI who)), some (.int (nI st)), some (.int (nI k))], [.int (g1 52 14), .int (nI k)], (hp_SH ++ dy, g1, r1)) [] rfl trivial ?_
    rw [e14]
    refine mm_I ok_Mo_together 32 0 54 [some (.ref 52), some (.int w), some (.int al), some (.int f1), some (.int (nI who)), some (.int (nI st)), some (.int (nI k))] [.int (nI N), .int (nI k)] (hp_SH ++ dy, g1, r1) [] rfl trivial rfl rfl (fun q => False.elim (nI_ge (show k < N by omega) (by omega) q)) (fun _ => ?_)
    refine mm_B ok_Mo_together 33 7 (67, [some (.ref 52), some (.int w), some (.int al), some (.int f1), some (.int (nI who)), some (.int (nI st)), some (.int (nI k))], [.int 1, .int (((nI who) >>> ((nI k) &&& 31)) &&& 1), .int (nI st)], (hp_SH ++ dy, g1, r1)) [] rfl trivial ?_
    rw [bt_t6 who (by omega) k (by omega)]
    refine mm_I ok_Mo_together 40 0 67 [some (.ref 52), some (.int w), some (.int al), some (.int f1), some (.int (nI who)), some (.int (nI st)), some (.int (nI k))] [.int 1, .int (nI (who / 2 ^ k % 2)), .int (nI st)] (hp_SH ++ dy, g1, r1) [] rfl trivial rfl rfl (fun hz => ?_) (fun hz => ?_)
    · have hz : who / 2 ^ k % 2 = 0 := by
        rcases (show who / 2 ^ k % 2 = 0 ∨ who / 2 ^ k % 2 = 1 by omega) with h | h
        · exact h
        · exact absurd (show nI (who / 2 ^ k % 2) = 1 by rw [h]; rfl) hz
      rw [if_pos hz] at h8
      refine mm_B ok_Mo_together 46 5 (48, [some (.ref 52), some (.int w), some (.int al), some (.int f1), some (.int (nI who)), some (.int ((nI st) ||| 0)), some (.int ((nI k) + 1))], [], (hp_SH ++ dy, g1, r1)) [] rfl trivial ?_
      rw [nI_1, show nI st ||| 0 = nI st from (or_16 st hlt 0 (by decide)).trans (by rw [Nat.or_zero])]
      exact h8
    · have hz : ¬ who / 2 ^ k % 2 = 0 := fun q => by rw [q] at hz; exact absurd hz (by decide)
      rw [if_neg hz] at h8
      refine mm_B ok_Mo_together 41 5 (81, [some (.ref 52), some (.int w), some (.int al), some (.int f1), some (.int (nI who)), some (.int (nI st)), some (.int (nI k))], [.int (g1 71 ((nI k).toNatClampNeg)), .int (nI st)], (hp_SH ++ dy, g1, r1)) [vp_in (nI k) 6] rfl (show vp_in (nI k) 6 from (nI_vi (by omega) (by decide))) ?_
      refine mm_B ok_Mo_together 47 4 (48, [some (.ref 52), some (.int w), some (.int al), some (.int f1), some (.int (nI who)), some (.int ((nI st) ||| (g1 71 ((nI k).toNatClampNeg)))), some (.int ((nI k) + 1))], [], (hp_SH ++ dy, g1, r1)) [] rfl trivial ?_
      rw [nI_1, nI_clamp (show k < 2 ^ 31 by omega), h71 k (by omega), or_16 _ hlt _ (hE k)]
      exact h8
theorem mt_go (dy : List mm_Sh) (g g1 : Nat → Nat → Int32) (r r1 : (Nat → Nat → Int64) × Nat × (Nat → Int32)) {A : sA} (hI : MI (nr_ g) A) {w : Nat} (hw1 : ¬ w = 0) (hw : w < 3) (x : Int32) (hx : x = (if w = 1 then nI (tF A) else nI (sp_p6 (tF A)))) (hr : r1.2 = r.2) (hF : fr_ mz_ g g1) (h71 : ∀ c, c < A.2.1.1 → g1 71 c = nI (tE A c)) : ∀ (m k : Nat), k + m = 2 ^ A.2.1.1 → mm_W 75 M_Mo_together 0 0 (RM dy g r A (.int x)) 0 0 (31, [some (.ref 52), some (.int (nI w)), some (.int (nI (tAll A))), some (.int (nI (pk2 (tgd A) sp_p6 k) - 1)), some (.int (nI k)), none, none], [], (hp_SH ++ dy, g1, r1)) := by
  have h4 := hI.1.2.1
  have h6 := hI.2.1.2.1
  have h64 := p2_64 h6
  have e14 : g1 52 14 = nI A.2.1.1 := by rw [nr_at (hF.nr mz_nr (rfl : nr_ g = nr_ g)) 52 14 rfl]; exact hI.2.1.1
  intro m
  induction m with
  | zero =>
    intro k hk
    rw [show k = 2 ^ A.2.1.1 by omega]
    obtain ⟨f, hf, hf2⟩ : ∃ f, pk2 (tgd A) sp_p6 (2 ^ A.2.1.1) = f + 1 ∧ f < 2 ^ A.2.1.1 := by
      rcases pk2_is (tgd A) sp_p6 (2 ^ A.2.1.1) with ⟨h0, h1⟩ | ⟨x, h0, h1, h2, h3⟩
      · have := h1 (2 ^ A.2.1.1 - 1) (by omega)
        rw [show tgd A (2 ^ A.2.1.1 - 1) = true from decide_eq_true rfl] at this
        cases this
      · exact ⟨x, h0, h1⟩
    rw [hf, nI_pred]
    rw [show tF A = f by unfold tF; rw [hf]; rfl] at hx
    refine mm_B ok_Mo_together 19 5 (39, [some (.ref 52), some (.int (nI w)), some (.int (nI (tAll A))), some (.int (nI f)), some (.int (nI (2 ^ A.2.1.1))), none, none], [.int (1 <<< ((g1 52 14) &&& 31)), .int (nI (2 ^ A.2.1.1))], (hp_SH ++ dy, g1, r1)) [] rfl trivial ?_
    rw [e14, ev6' _ h6]
    refine mm_I ok_Mo_together 24 0 39 [some (.ref 52), some (.int (nI w)), some (.int (nI (tAll A))), some (.int (nI f)), some (.int (nI (2 ^ A.2.1.1))), none, none] [.int (nI (2 ^ A.2.1.1)), .int (nI (2 ^ A.2.1.1))] (hp_SH ++ dy, g1, r1) [] rfl trivial rfl rfl (fun _ => ?_) (fun q => False.elim (q (nI_le (Nat.le_refl _) (by omega))))
    rcases (show w = 1 ∨ w = 2 by omega) with hw | hw
    · subst hw
      rw [if_pos rfl] at hx
      rw [hx]
      refine mm_I ok_Mo_together 66 2 124 [some (.ref 52), some (.int (nI 1)), some (.int (nI (tAll A))), some (.int (nI f)), some (.int (nI (2 ^ A.2.1.1))), none, none] [.int 1, .int (nI 1)] (hp_SH ++ dy, g1, r1) [] rfl trivial rfl rfl (fun q => False.elim (q rfl)) (fun _ => ?_)
      refine mm_B ok_Mo_together 69 2 (135, [some (.ref 52), some (.int (nI 1)), some (.int (nI (tAll A))), some (.int (nI f)), some (.int (nI (2 ^ A.2.1.1))), none, none], [.int (nI f)], (hp_SH ++ dy, g1, r1)) [] rfl trivial ?_
      exact mm_ri rfl (mm_at ok_Mo_together (i := 73) rfl).1 ⟨Nat.le_refl _, Nat.le_refl _⟩ (RM_q hr hI (hF.mono dz_mz))
    · subst hw
      rw [if_neg (by decide)] at hx
      rw [hx]
      refine mm_I ok_Mo_together 66 2 124 [some (.ref 52), some (.int (nI 2)), some (.int (nI (tAll A))), some (.int (nI f)), some (.int (nI (2 ^ A.2.1.1))), none, none] [.int 1, .int (nI 2)] (hp_SH ++ dy, g1, r1) [] rfl trivial rfl rfl (fun _ => ?_) (fun q => False.elim (absurd q (by decide)))
      refine mm_B ok_Mo_together 71 1 (132, [some (.ref 52), some (.int (nI 2)), some (.int (nI (tAll A))), some (.int (nI f)), some (.int (nI (2 ^ A.2.1.1))), none, none], [.int (nI f)], (hp_SH ++ dy, g1, r1)) [] rfl trivial ?_
      refine mm_cS (as := [.int (nI f)]) (st := []) cw_Mo_bitsOf lk_Mo_270 sx_Mo_bitsOf (mm_at ok_Mo_together (i := 72) rfl).1 (ct_Mo_bitsOf (hp_SH ++ dy, g1, r1) (v := f) (by omega)) (by decide) ⟨by omega, by omega⟩ (Nat.le_of_ble_eq_true rfl) (mm_vs_b (b := 77) rfl (hp_len dy)) (fun v h' hqq => ?_)
      obtain ⟨rfl, hqe⟩ := hqq; rw [hqe]
      exact mm_ri rfl (mm_at ok_Mo_together (i := 73) rfl).1 ⟨Nat.le_refl _, Nat.le_refl _⟩ (RM_q hr hI (hF.mono dz_mz))
  | succ m ih =>
    intro k hk
    have h8 := ih (k + 1) (by omega)
    rw [show pk2 (tgd A) sp_p6 (k + 1) = (if tgd A k = true ∧ (pk2 (tgd A) sp_p6 k = 0 ∨ sp_p6 k < sp_p6 (pk2 (tgd A) sp_p6 k - 1)) then k + 1 else pk2 (tgd A) sp_p6 k) from rfl] at h8
    have hpk : pk2 (tgd A) sp_p6 k ≤ k := by
      rcases pk2_is (tgd A) sp_p6 k with ⟨h0, h1⟩ | ⟨x, h0, h1, h2, h3⟩ <;> omega
    generalize hst : pk2 (tgd A) sp_p6 k = p at h8 hpk ⊢
    refine mm_B ok_Mo_together 19 5 (39, [some (.ref 52), some (.int (nI w)), some (.int (nI (tAll A))), some (.int (nI p - 1)), some (.int (nI k)), none, none], [.int (1 <<< ((g1 52 14) &&& 31)), .int (nI k)], (hp_SH ++ dy, g1, r1)) [] rfl trivial ?_
    rw [e14, ev6' _ h6]
    refine mm_I ok_Mo_together 24 0 39 [some (.ref 52), some (.int (nI w)), some (.int (nI (tAll A))), some (.int (nI p - 1)), some (.int (nI k)), none, none] [.int (nI (2 ^ A.2.1.1)), .int (nI k)] (hp_SH ++ dy, g1, r1) [] rfl trivial rfl rfl (fun q => False.elim (nI_ge (show k < 2 ^ A.2.1.1 by omega) (by omega) q)) (fun _ => ?_)
    refine mm_B ok_Mo_together 25 4 (48, [some (.ref 52), some (.int (nI w)), some (.int (nI (tAll A))), some (.int (nI p - 1)), some (.int (nI k)), some (.int 0), some (.int 0)], [], (hp_SH ++ dy, g1, r1)) [] rfl trivial ?_
    refine mt_in dy g1 r1 (tE_lt h4) h6 e14 h71 (who := k) (by omega) ?_ A.2.1.1 0 (Nat.zero_add _)
    rw [← eo_6 (E := tE A) (show k < 2 ^ A.2.1.1 by omega) h6]
    refine mm_I ok_Mo_together 51 2 93 [some (.ref 52), some (.int (nI w)), some (.int (nI (tAll A))), some (.int (nI p - 1)), some (.int (nI k)), some (.int (nI (eo_ (tE A) k 6))), some (.int (nI A.2.1.1))] [.int (nI (tAll A)), .int (nI (eo_ (tE A) k 6))] (hp_SH ++ dy, g1, r1) [] rfl trivial rfl rfl (fun hq => ?_) (fun hq => ?_)
    · rw [if_neg (fun q => hq (by rw [tgd_eq q.1]))] at h8
      refine mm_B ok_Mo_together 64 2 (31, [some (.ref 52), some (.int (nI w)), some (.int (nI (tAll A))), some (.int (nI p - 1)), some (.int ((nI k) + 1)), some (.int (nI (eo_ (tE A) k 6))), some (.int (nI A.2.1.1))], [], (hp_SH ++ dy, g1, r1)) [] rfl trivial ?_
      refine mm_fg [5, 6] ?_
      rw [nI_1]
      exact h8
    · have hq2 : eo_ (tE A) k 6 = tAll A := (nI_eq (by have := eo_lt (who := k) (tE_lt h4) 6; omega) (by have := eo_lt (who := 2 ^ A.2.1.1 - 1) (tE_lt h4) 6; unfold tAll; omega)).mp hq
      have hgm : tgd A k = true := decide_eq_true hq2
      by_cases hp0 : p = 0
      · rw [if_pos ⟨hgm, Or.inl hp0⟩, nI_pred] at h8
        refine mm_I ok_Mo_together 54 2 98 [some (.ref 52), some (.int (nI w)), some (.int (nI (tAll A))), some (.int (nI p - 1)), some (.int (nI k)), some (.int (nI (eo_ (tE A) k 6))), some (.int (nI A.2.1.1))] [.int (-1), .int (nI p - 1)] (hp_SH ++ dy, g1, r1) [] rfl trivial rfl rfl (fun _ => ?_) (fun q => False.elim (q (by rw [hp0]; rfl)))
        refine mm_B ok_Mo_together 62 4 (31, [some (.ref 52), some (.int (nI w)), some (.int (nI (tAll A))), some (.int (nI k)), some (.int ((nI k) + 1)), some (.int (nI (eo_ (tE A) k 6))), some (.int (nI A.2.1.1))], [], (hp_SH ++ dy, g1, r1)) [] rfl trivial ?_
        refine mm_fg [5, 6] ?_
        rw [nI_1]
        exact h8
      · obtain ⟨f, rfl⟩ : ∃ f, p = f + 1 := ⟨p - 1, by omega⟩
        rw [show f + 1 - 1 = f from rfl] at h8
        have hp1 := sp_p6_lt k
        have hp2 := sp_p6_lt f
        rw [nI_pred]
        refine mm_I ok_Mo_together 54 2 98 [some (.ref 52), some (.int (nI w)), some (.int (nI (tAll A))), some (.int (nI f)), some (.int (nI k)), some (.int (nI (eo_ (tE A) k 6))), some (.int (nI A.2.1.1))] [.int (-1), .int (nI f)] (hp_SH ++ dy, g1, r1) [] rfl trivial rfl rfl (fun q => False.elim (m1_ne (by omega) q)) (fun _ => ?_)
        refine mm_B ok_Mo_together 57 1 (103, [some (.ref 52), some (.int (nI w)), some (.int (nI (tAll A))), some (.int (nI f)), some (.int (nI k)), some (.int (nI (eo_ (tE A) k 6))), some (.int (nI A.2.1.1))], [.int (nI k)], (hp_SH ++ dy, g1, r1)) [] rfl trivial ?_
        refine mm_cS (as := [.int (nI k)]) (st := []) cw_Mo_bitsOf lk_Mo_270 sx_Mo_bitsOf (mm_at ok_Mo_together (i := 58) rfl).1 (ct_Mo_bitsOf (hp_SH ++ dy, g1, r1) (v := k) (by omega)) (by decide) ⟨by omega, by omega⟩ (Nat.le_of_ble_eq_true rfl) (mm_vs_b (b := 77) rfl (hp_len dy)) (fun v h' hqq => ?_)
        obtain ⟨rfl, hqe⟩ := hqq; rw [hqe]
        refine mm_B ok_Mo_together 59 1 (107, [some (.ref 52), some (.int (nI w)), some (.int (nI (tAll A))), some (.int (nI f)), some (.int (nI k)), some (.int (nI (eo_ (tE A) k 6))), some (.int (nI A.2.1.1))], [.int (nI f), .int (nI (sp_p6 k))], (hp_SH ++ dy, g1, r1)) [] rfl trivial ?_
        refine mm_cS (as := [.int (nI f)]) (st := [.int (nI (sp_p6 k))]) cw_Mo_bitsOf lk_Mo_270 sx_Mo_bitsOf (mm_at ok_Mo_together (i := 60) rfl).1 (ct_Mo_bitsOf (hp_SH ++ dy, g1, r1) (v := f) (by omega)) (by decide) ⟨by omega, by omega⟩ (Nat.le_of_ble_eq_true rfl) (mm_vs_b (b := 77) rfl (hp_len dy)) (fun v h' hqq => ?_)
        obtain ⟨rfl, hqe⟩ := hqq; rw [hqe]
        refine mm_I ok_Mo_together 61 0 110 [some (.ref 52), some (.int (nI w)), some (.int (nI (tAll A))), some (.int (nI f)), some (.int (nI k)), some (.int (nI (eo_ (tE A) k 6))), some (.int (nI A.2.1.1))] [.int (nI (sp_p6 f)), .int (nI (sp_p6 k))] (hp_SH ++ dy, g1, r1) [] rfl trivial rfl rfl (fun hb => ?_) (fun hb => ?_)
        · have hb := (nI_leI (by omega) (by omega)).mp hb
          rw [if_neg (fun q => by rcases q.2 with q | q <;> omega), nI_pred] at h8
          refine mm_B ok_Mo_together 64 2 (31, [some (.ref 52), some (.int (nI w)), some (.int (nI (tAll A))), some (.int (nI f)), some (.int ((nI k) + 1)), some (.int (nI (eo_ (tE A) k 6))), some (.int (nI A.2.1.1))], [], (hp_SH ++ dy, g1, r1)) [] rfl trivial ?_
          refine mm_fg [5, 6] ?_
          rw [nI_1]
          exact h8
        · have hb := (nI_ltI (by omega) (by omega)).mp (Int32.not_le.mp hb)
          rw [if_pos ⟨hgm, Or.inr hb⟩, nI_pred] at h8
          refine mm_B ok_Mo_together 62 4 (31, [some (.ref 52), some (.int (nI w)), some (.int (nI (tAll A))), some (.int (nI k)), some (.int ((nI k) + 1)), some (.int (nI (eo_ (tE A) k 6))), some (.int (nI A.2.1.1))], [], (hp_SH ++ dy, g1, r1)) [] rfl trivial ?_
          refine mm_fg [5, 6] ?_
          rw [nI_1]
          exact h8
theorem cm_together (dy : List mm_Sh) (g : Nat → Nat → Int32) (r : (Nat → Nat → Int64) × Nat × (Nat → Int32)) {A : sA} (hI : MI (nr_ g) A) (hSI : SI A) (w : Int32) : mm_Ct 75 M_Mo_together [.ref 52, .int w] (hp_SH ++ dy, g, r) 0 0 (RM dy g r A (.int (an_together A w))) := by
  have hI' := hI
  obtain ⟨hL, hK, hPl, hX, hB, hS, hIm⟩ := hI'
  have hR := dX_R hX
  have h4 := hL.2.1
  have h6 := hK.2.1
  have e10 : g 52 10 = nI A.1.1 := by rw [← nr_eq g (k := 52) (j := 10) rfl]; exact hL.1
  have e14 : g 52 14 = nI A.2.1.1 := by rw [← nr_eq g (k := 52) (j := 14) rfl]; exact hK.1
  have hpl : ∀ b, b < 6 → g 62 b = pl_c (A.2.2.1.1 b) := fun b hb => by rw [← nr_eq g (k := 62) (j := b) rfl]; exact (hPl b hb).1
  have hot : ∀ b, b < 6 → g 62 (6 + b) = pl_c (A.2.2.1.2 b) := fun b hb => by rw [← nr_eq g (k := 62) (j := 6 + b) rfl]; exact (hPl b hb).2
  have hpo : ∀ b l, b < 6 → A.2.2.1.1 b = some l → l < A.1.1 := fun b l hb h => hSI.1 b l hb (Or.inl h)
  refine mm_start pl_Mo (Nat.le_of_ble_eq_true rfl) ?_
  cases hx1 : ix_ 3 w with
  | none =>
    rw [show an_together A w = (-2) by unfold an_together; rw [hx1]]
    refine mm_B ok_Mo_together 0 4 (6, [some (.ref 52), some (.int w), none, none, none, none, none], [.long 2, .long 0, .long (w).toInt64], (hp_SH ++ dy, g, r)) [] rfl trivial ?_
    refine mm_cS (as := [.long (w).toInt64, .long 0, .long 2]) (st := []) cw_Mo_in lk_Mo_100 sx_Mo_in (mm_at ok_Mo_together (i := 4) rfl).1 (ct_Mo_in (hp_SH ++ dy, g, r) w.toInt64 0 2) (by decide) ⟨by omega, by omega⟩ (Nat.le_of_ble_eq_true rfl) (mm_vs_b (b := 77) rfl (hp_len dy)) (fun v h' hqq => ?_)
    obtain ⟨rfl, hqe⟩ := hqq; rw [hqe]
    rw [in_3 w, hx1]
    refine mm_I ok_Mo_together 5 0 9 [some (.ref 52), some (.int w), none, none, none, none, none] [.int (iz_ none)] (hp_SH ++ dy, g, r) [] rfl trivial rfl rfl (fun q => False.elim (q rfl)) (fun _ => ?_)
    refine mm_B ok_Mo_together 6 1 (14, [some (.ref 52), some (.int w), none, none, none, none, none], [.int (-2)], (hp_SH ++ dy, g, r)) [] rfl trivial ?_
    exact mm_ri rfl (mm_at ok_Mo_together (i := 7) rfl).1 ⟨Nat.le_refl _, Nat.le_refl _⟩ (RM_q rfl hI fr_.rf)
  | some j =>
    obtain ⟨hl1, rfl⟩ := ix_some (by omega) hx1
    rw [show an_together A (nI j) = (if j = 0 then nI (tAll A) else if j = 1 then nI (tF A) else nI (sp_p6 (tF A))) from by unfold an_together; rw [hx1]]
    refine mm_B ok_Mo_together 0 4 (6, [some (.ref 52), some (.int (nI j)), none, none, none, none, none], [.long 2, .long 0, .long ((nI j)).toInt64], (hp_SH ++ dy, g, r)) [] rfl trivial ?_
    refine mm_cS (as := [.long ((nI j)).toInt64, .long 0, .long 2]) (st := []) cw_Mo_in lk_Mo_100 sx_Mo_in (mm_at ok_Mo_together (i := 4) rfl).1 (ct_Mo_in (hp_SH ++ dy, g, r) (nI j).toInt64 0 2) (by decide) ⟨by omega, by omega⟩ (Nat.le_of_ble_eq_true rfl) (mm_vs_b (b := 77) rfl (hp_len dy)) (fun v h' hqq => ?_)
    obtain ⟨rfl, hqe⟩ := hqq; rw [hqe]
    rw [in_3 (nI j), ix_at hl1 (by omega)]
    refine mm_I ok_Mo_together 5 0 9 [some (.ref 52), some (.int (nI j)), none, none, none, none, none] [.int (iz_ (some j))] (hp_SH ++ dy, g, r) [] rfl trivial rfl rfl (fun _ => ?_) (fun q => False.elim (one0 q))
    refine mm_B ok_Mo_together 8 1 (16, [some (.ref 52), some (.int (nI j)), none, none, none, none, none], [.ref 52], (hp_SH ++ dy, g, r)) [] rfl trivial ?_
    refine mm_cV (as := []) (st := []) (q := 52) cw_Mo_allHave lk_Mo_332 in_Mo_allHave sl_Mo_allHave rfl rfl (mm_at ok_Mo_together (i := 9) rfl).1 (ct_Mo_allHave dy g r hI hSI) (by decide) ⟨by omega, by omega⟩ (Nat.le_of_ble_eq_true rfl) (mm_vs_b (b := 77) rfl (hp_len dy)) (fun v h' hqq => ?_)
    obtain ⟨rfl, g1, r1, hqe, hr1, hF1, h71⟩ := hqq; rw [hqe]
    by_cases hw0 : j = 0
    · subst hw0
      rw [if_pos rfl]
      refine mm_I ok_Mo_together 10 2 21 [some (.ref 52), some (.int (nI 0)), some (.int (nI (tAll A))), none, none, none, none] [.int (nI 0)] (hp_SH ++ dy, g1, r1) [] rfl trivial rfl rfl (fun q => False.elim (q rfl)) (fun _ => ?_)
      refine mm_B ok_Mo_together 13 1 (25, [some (.ref 52), some (.int (nI 0)), some (.int (nI (tAll A))), none, none, none, none], [.int (nI (tAll A))], (hp_SH ++ dy, g1, r1)) [] rfl trivial ?_
      exact mm_ri rfl (mm_at ok_Mo_together (i := 14) rfl).1 ⟨Nat.le_refl _, Nat.le_refl _⟩ (RM_q hr1 hI (hF1.mono dz_mz))
    · rw [if_neg hw0]
      refine mm_I ok_Mo_together 10 2 21 [some (.ref 52), some (.int (nI j)), some (.int (nI (tAll A))), none, none, none, none] [.int (nI j)] (hp_SH ++ dy, g1, r1) [] rfl trivial rfl rfl (fun _ => ?_) (fun q => False.elim (nI_ne0 (by omega) (by omega) q))
      refine mm_B ok_Mo_together 15 4 (31, [some (.ref 52), some (.int (nI j)), some (.int (nI (tAll A))), some (.int (-1)), some (.int 0), none, none], [], (hp_SH ++ dy, g1, r1)) [] rfl trivial ?_
      exact mt_go dy g g1 r r1 hI hw0 hl1 _ rfl hr1 hF1 h71 (2 ^ A.2.1.1) 0 (Nat.zero_add _)

