/-! ===== a row of signs is worked out ===== -/
def wk_s (sc : Nat → Int32) (s : Int32) (q : Nat × (Nat → Int32)) : Nat × (Nat → Int32) :=
  if s < -6 then (if s = -9 ∧ 0 < q.1 then (q.1, upd q.2 (q.1 - 1) (if q.2 (q.1 - 1) = 0 then 1 else 0)) else if s = -15 ∧ 0 < q.1 then (q.1, upd q.2 (q.1 - 1) (-(q.2 (q.1 - 1)))) else if 1 < q.1 then (q.1 - 1, upd q.2 (q.1 - 2) (jn_ s (q.2 (q.1 - 2)) (q.2 (q.1 - 1)))) else q)
  else (q.1 + 1, upd q.2 q.1 (if s < 0 then sc (-1 - s).toNatClampNeg else s))
def wk_r (sc : Nat → Int32) : List Int32 → Nat × (Nat → Int32) → Nat × (Nat → Int32)
  | [], q => q
  | s :: c, q => wk_r sc c (wk_s sc s q)
def wk_v (q : Nat × (Nat → Int32)) : Int32 := if 0 < q.1 then q.2 (q.1 - 1) else 0
theorem wk_vi {s : Int32} (h1 : ¬ s < -6) (h2 : s < 0) : vp_in (-1 - s) 6 := by
  rw [vp_in_iff]
  have a := Int32.lt_iff_toInt_lt.mp h2
  have b : ¬ s.toInt < -6 := fun q => h1 (Int32.lt_iff_toInt_lt.mpr q)
  have c : (0 : Int32).toInt = 0 := rfl
  have e : (-1 - s).toInt = -1 - s.toInt := by
    rw [Int32.toInt_sub]
    have : (-1 : Int32).toInt = -1 := rfl
    rw [this, Int.bmod_eq_of_le] <;> omega
  rw [e]
  omega
theorem mm_vs_d {n q : Nat} {lv : mm_L} {st : List Value} (a : Value) (hq : q < n) (h : mm_vs n lv st) (ha : ∀ k, a = .ref k → k < n) : mm_vs n (some a :: some (.ref q) :: lv) st :=
  ⟨fun k hk => by
    rcases List.mem_cons.mp hk with e | e
    · cases e; exact ha k rfl
    · rcases List.mem_cons.mp e with e | e
      · cases e; exact hq
      · exact h.1 k e, h.2⟩
theorem wk_go (g P : Nat → Nat → Int32) (r : (Nat → Nat → Int64) × Nat × (Nat → Int32)) (dy : List mm_Sh) {ca : Nat} {cl : List Int32} {sc f0 : Nat → Int32} (hsh : (hp_SH ++ dy)[ca]? = some (.inl (0, cl.length))) (hcl : cl.length ≤ 155) (hns : ∀ j, nr_s ca j = false) (hct : ∀ i, i < cl.length → P ca i = cl.getD i 0) (hP0 : nr_ g = P) : ∀ (c2 : List Int32) (k top : Nat) (g1 : Nat → Nat → Int32), cl.drop k = c2 → k + c2.length = cl.length → top ≤ k → fr_ f1_ g g1 → g1 13 = sc → wk_r sc c2 (top, g1 14) = wk_r sc cl (0, f0) → mm_W 2 M_Sp_worked 0 0 (fun v h' => v = some (.int (wk_v (wk_r sc cl (0, f0)))) ∧ ∃ g', h' = (hp_SH ++ dy, g', r) ∧ fr_ f1_ g g') 0 0 (4, [some (.ref 1), some (.ref ca), some (.int (nI top)), some (.int (nI k)), none], [], (hp_SH ++ dy, g1, r)) := by
  have hlt : ca < (hp_SH ++ dy).length := (List.getElem?_eq_some_iff.mp hsh).1
  intro c2
  induction c2 with
  | nil =>
    intro k top g1 hdr hk htop hF hsc hE
    have hk : k = cl.length := by simpa using hk
    have ht155 : top ≤ 155 := by omega
    refine mm_B ok_Sp_worked 4 2 (6, [some (.ref 1), some (.ref ca), some (.int (nI top)), some (.int (nI k)), none], [.ref ca, .int (nI k)], (hp_SH ++ dy, g1, r)) [] rfl trivial ?_
    refine mm_ialn (by decide) hsh (mm_at ok_Sp_worked (i := 6) rfl).1 ?_
    refine mm_I ok_Sp_worked 7 0 7 [some (.ref 1), some (.ref ca), some (.int (nI top)), some (.int (nI k)), none] [.int (nI cl.length), .int (nI k)] (hp_SH ++ dy, g1, r) [] rfl trivial rfl rfl (fun _ => ?_) (fun q => False.elim (q (nI_le (by omega) (by omega))))
    have hv : wk_v (wk_r sc cl (0, f0)) = wk_v (top, g1 14) := by rw [← hE]; rfl
    refine mm_I ok_Sp_worked 101 1 173 [some (.ref 1), some (.ref ca), some (.int (nI top)), some (.int (nI k)), none] [.int (nI top)] (hp_SH ++ dy, g1, r) [] rfl trivial rfl rfl (fun ht => ?_) (fun ht => ?_)
    · have ht : top = 0 := by
        rcases Nat.eq_zero_or_pos top with h | h
        · exact h
        · exact absurd ht (nI_nle h (by omega))
      refine mm_B ok_Sp_worked 110 1 (188, [some (.ref 1), some (.ref ca), some (.int (nI top)), some (.int (nI k)), none], [.int 0], (hp_SH ++ dy, g1, r)) [] rfl trivial ?_
      exact mm_ri rfl (mm_at ok_Sp_worked (i := 111) rfl).1 ⟨Nat.le_refl _, Nat.le_refl _⟩ (⟨by rw [hv, wk_v, if_neg (by show ¬ 0 < top; omega)], g1, rfl, hF⟩)
    · have ht : 0 < top := by
        rcases Nat.eq_zero_or_pos top with h | h
        · rw [h] at ht; exact absurd (by decide) ht
        · exact h
      obtain ⟨u, rfl⟩ : ∃ u, top = u + 1 := ⟨top - 1, by omega⟩
      refine mm_B ok_Sp_worked 103 7 (188, [some (.ref 1), some (.ref ca), some (.int (nI (u + 1))), some (.int (nI k)), none], [.int (g1 14 (((nI (u + 1)) - 1).toNatClampNeg))], (hp_SH ++ dy, g1, r)) [vp_in ((nI (u + 1)) - 1) 160] rfl (show vp_in ((nI (u + 1)) - 1) 160 from (by rw [nI_pred]; exact nI_vi (by omega) (by decide))) ?_
      exact mm_ri rfl (mm_at ok_Sp_worked (i := 111) rfl).1 ⟨Nat.le_refl _, Nat.le_refl _⟩ (⟨by rw [hv, wk_v, if_pos (by show 0 < u + 1; omega), nI_pred, nI_clamp (by omega)]; rfl, g1, rfl, hF⟩)
  | cons s c2 ih =>
    intro k top g1 hdr hk htop hF hsc hE
    have hP := hF.nr f1_nr hP0
    have hkl : k < cl.length := by simp at hk; omega
    have hs : cl.getD k 0 = s ∧ cl.drop (k + 1) = c2 := by
      have h1 := List.drop_eq_getElem_cons hkl
      rw [hdr] at h1
      injection h1 with h2 h3
      exact ⟨by rw [List.getD_eq_getElem?_getD, List.getElem?_eq_getElem hkl]; exact h2.symm, h3.symm⟩
    have eS : g1 ca (nI k).toNatClampNeg = s := by rw [nI_clamp (by omega), nr_at hP ca k (hns k), hct k hkl]; exact hs.1
    have hE : wk_r sc c2 (wk_s sc s (top, g1 14)) = wk_r sc cl (0, f0) := hE
    have hk2 : k + 1 + c2.length = cl.length := by simp at hk; omega
    have hvt : vp_in (nI top) 160 := nI_vi (by omega) (by decide)
    refine mm_B ok_Sp_worked 4 2 (6, [some (.ref 1), some (.ref ca), some (.int (nI top)), some (.int (nI k)), none], [.ref ca, .int (nI k)], (hp_SH ++ dy, g1, r)) [] rfl trivial ?_
    refine mm_ialn (by decide) hsh (mm_at ok_Sp_worked (i := 6) rfl).1 ?_
    refine mm_I ok_Sp_worked 7 0 7 [some (.ref 1), some (.ref ca), some (.int (nI top)), some (.int (nI k)), none] [.int (nI cl.length), .int (nI k)] (hp_SH ++ dy, g1, r) [] rfl trivial rfl rfl (fun q => False.elim (nI_ge hkl (by omega) q)) (fun _ => ?_)
    refine mm_I ok_Sp_worked 8 4 16 [some (.ref 1), some (.ref ca), some (.int (nI top)), some (.int (nI k)), none] [.int (nI 160), .int (nI top)] (hp_SH ++ dy, g1, r) [] rfl trivial rfl rfl (fun q => False.elim (nI_ge (show top < 160 by omega) (by omega) q)) (fun _ => ?_)
    refine mm_B ok_Sp_worked 13 2 (21, [some (.ref 1), some (.ref ca), some (.int (nI top)), some (.int (nI k)), none], [.int (nI k), .ref ca], (hp_SH ++ dy, g1, r)) [] rfl trivial ?_
    refine mm_iald hsh (nI_vi hkl (by omega)) (mm_at ok_Sp_worked (i := 15) rfl).1 ?_
    refine mm_B ok_Sp_worked 16 3 (28, [some (.ref 1), some (.ref ca), some (.int (nI top)), some (.int (nI k)), some (.int (g1 ca (nI k).toNatClampNeg))], [.int (-6), .int (g1 ca (nI k).toNatClampNeg)], (hp_SH ++ dy, g1, r)) [] rfl trivial ?_
    rw [eS]
    by_cases h6 : s < -6
    · refine mm_I ok_Sp_worked 19 0 28 [some (.ref 1), some (.ref ca), some (.int (nI top)), some (.int (nI k)), some (.int s)] [.int (-6), .int s] (hp_SH ++ dy, g1, r) [] rfl trivial rfl rfl (fun _ => ?_) (fun q => False.elim (q h6))
      have e1 : wk_s sc s (top, g1 14) = (if s = -9 ∧ 0 < top then (top, upd (g1 14) (top - 1) (if g1 14 (top - 1) = 0 then 1 else 0)) else if s = -15 ∧ 0 < top then (top, upd (g1 14) (top - 1) (-(g1 14 (top - 1)))) else if 1 < top then (top - 1, upd (g1 14) (top - 2) (jn_ s (g1 14 (top - 2)) (g1 14 (top - 1)))) else (top, g1 14)) := by rw [wk_s, if_pos h6]
      rw [e1] at hE
      by_cases h9 : s = -9 ∧ 0 < top
      · rw [if_pos h9] at hE
        obtain ⟨u, rfl⟩ : ∃ u, top = u + 1 := ⟨top - 1, by omega⟩
        refine mm_I ok_Sp_worked 36 2 66 [some (.ref 1), some (.ref ca), some (.int (nI (u + 1))), some (.int (nI k)), some (.int s)] [.int (-9), .int s] (hp_SH ++ dy, g1, r) [] rfl trivial rfl rfl (fun q => False.elim (q h9.1)) (fun _ => ?_)
        refine mm_I ok_Sp_worked 39 1 70 [some (.ref 1), some (.ref ca), some (.int (nI (u + 1))), some (.int (nI k)), some (.int s)] [.int (nI (u + 1))] (hp_SH ++ dy, g1, r) [] rfl trivial rfl rfl (fun q => False.elim (absurd q (nI_nle (by omega) (by omega)))) (fun _ => ?_)
        refine mm_B ok_Sp_worked 41 11 (88, [some (.ref 1), some (.ref ca), some (.int (nI (u + 1))), some (.int (nI k)), some (.int s)], [.int (g1 14 (((nI (u + 1)) - 1).toNatClampNeg)), .int ((nI (u + 1)) - 1), .ref 14], (hp_SH ++ dy, g1, r)) [vp_in ((nI (u + 1)) - 1) 160] rfl (show vp_in ((nI (u + 1)) - 1) 160 from (by rw [nI_pred]; exact nI_vi (by omega) (by decide))) ?_
        rw [nI_pred, nI_clamp (show u < 2 ^ 31 by omega)]
        refine mm_I ok_Sp_worked 52 0 88 [some (.ref 1), some (.ref ca), some (.int (nI (u + 1))), some (.int (nI k)), some (.int s)] [.int (g1 14 u), .int (nI u), .ref 14] (hp_SH ++ dy, g1, r) [] rfl trivial rfl rfl (fun hz => ?_) (fun hz => ?_)
        · refine mm_B ok_Sp_worked 55 3 (166, [some (.ref 1), some (.ref ca), some (.int (nI (u + 1))), some (.int (nI k)), some (.int s)], [], (hp_SH ++ dy, mm_up g1 14 ((nI u).toNatClampNeg) 0, r)) [vp_in (nI u) 160] rfl (show vp_in (nI u) 160 from (nI_vi (by omega) (by decide))) ?_
          rw [nI_clamp (show u < 2 ^ 31 by omega)]
          refine mm_B ok_Sp_worked 99 2 (4, [some (.ref 1), some (.ref ca), some (.int (nI (u + 1))), some (.int ((nI k) + 1)), some (.int s)], [], (hp_SH ++ dy, mm_up g1 14 u 0, r)) [] rfl trivial ?_
          rw [nI_1]
          refine mm_fg [4] ?_
          refine ih (k + 1) (u + 1) _ hs.2 hk2 (by omega) (hF.up _ rfl) (by rw [mm_up_ne (by decide)]; exact hsc) ?_
          rw [mm_up_eq]
          rw [show u + 1 - 1 = u by omega, if_neg hz] at hE
          exact hE
        · refine mm_B ok_Sp_worked 53 2 (96, [some (.ref 1), some (.ref ca), some (.int (nI (u + 1))), some (.int (nI k)), some (.int s)], [.int 1, .int (nI u), .ref 14], (hp_SH ++ dy, g1, r)) [] rfl trivial ?_
          refine mm_B ok_Sp_worked 56 2 (166, [some (.ref 1), some (.ref ca), some (.int (nI (u + 1))), some (.int (nI k)), some (.int s)], [], (hp_SH ++ dy, mm_up g1 14 ((nI u).toNatClampNeg) 1, r)) [vp_in (nI u) 160] rfl (show vp_in (nI u) 160 from (nI_vi (by omega) (by decide))) ?_
          rw [nI_clamp (show u < 2 ^ 31 by omega)]
          refine mm_B ok_Sp_worked 99 2 (4, [some (.ref 1), some (.ref ca), some (.int (nI (u + 1))), some (.int ((nI k) + 1)), some (.int s)], [], (hp_SH ++ dy, mm_up g1 14 u 1, r)) [] rfl trivial ?_
          rw [nI_1]
          refine mm_fg [4] ?_
          refine ih (k + 1) (u + 1) _ hs.2 hk2 (by omega) (hF.up _ rfl) (by rw [mm_up_ne (by decide)]; exact hsc) ?_
          rw [mm_up_eq]
          rw [show u + 1 - 1 = u by omega, if_pos hz] at hE
          exact hE
      · rw [if_neg h9] at hE
        have key : mm_W 2 M_Sp_worked 0 0 (fun v h' => v = some (.int (wk_v (wk_r sc cl (0, f0)))) ∧ ∃ g', h' = (hp_SH ++ dy, g', r) ∧ fr_ f1_ g g') 0 0 (100, [some (.ref 1), some (.ref ca), some (.int (nI top)), some (.int (nI k)), some (.int s)], [], (hp_SH ++ dy, g1, r)) := by
          by_cases h15 : s = -15 ∧ 0 < top
          · rw [if_pos h15] at hE
            obtain ⟨u, rfl⟩ : ∃ u, top = u + 1 := ⟨top - 1, by omega⟩
            refine mm_I ok_Sp_worked 58 2 104 [some (.ref 1), some (.ref ca), some (.int (nI (u + 1))), some (.int (nI k)), some (.int s)] [.int (-15), .int s] (hp_SH ++ dy, g1, r) [] rfl trivial rfl rfl (fun q => False.elim (q h15.1)) (fun _ => ?_)
            refine mm_I ok_Sp_worked 61 1 108 [some (.ref 1), some (.ref ca), some (.int (nI (u + 1))), some (.int (nI k)), some (.int s)] [.int (nI (u + 1))] (hp_SH ++ dy, g1, r) [] rfl trivial rfl rfl (fun q => False.elim (absurd q (nI_nle (by omega) (by omega)))) (fun _ => ?_)
            refine mm_B ok_Sp_worked 63 14 (166, [some (.ref 1), some (.ref ca), some (.int (nI (u + 1))), some (.int (nI k)), some (.int s)], [], (hp_SH ++ dy, mm_up g1 14 (((nI (u + 1)) - 1).toNatClampNeg) (-(g1 14 (((nI (u + 1)) - 1).toNatClampNeg))), r)) [vp_in ((nI (u + 1)) - 1) 160, vp_in ((nI (u + 1)) - 1) 160] rfl (show (vp_in ((nI (u + 1)) - 1) 160) ∧ (vp_in ((nI (u + 1)) - 1) 160) from ⟨(by rw [nI_pred]; exact nI_vi (by omega) (by decide)), (by rw [nI_pred]; exact nI_vi (by omega) (by decide))⟩) ?_
            rw [nI_pred, nI_clamp (show u < 2 ^ 31 by omega)]
            refine mm_B ok_Sp_worked 99 2 (4, [some (.ref 1), some (.ref ca), some (.int (nI (u + 1))), some (.int ((nI k) + 1)), some (.int s)], [], (hp_SH ++ dy, mm_up g1 14 u (-(g1 14 (u))), r)) [] rfl trivial ?_
            rw [nI_1]
            refine mm_fg [4] ?_
            refine ih (k + 1) (u + 1) _ hs.2 hk2 (by omega) (hF.up _ rfl) (by rw [mm_up_ne (by decide)]; exact hsc) ?_
            rw [mm_up_eq]
            exact hE
          · rw [if_neg h15] at hE
            have key2 : mm_W 2 M_Sp_worked 0 0 (fun v h' => v = some (.int (wk_v (wk_r sc cl (0, f0)))) ∧ ∃ g', h' = (hp_SH ++ dy, g', r) ∧ fr_ f1_ g g') 0 0 (131, [some (.ref 1), some (.ref ca), some (.int (nI top)), some (.int (nI k)), some (.int s)], [], (hp_SH ++ dy, g1, r)) := by
              by_cases h1 : 1 < top
              · rw [if_pos h1] at hE
                obtain ⟨u, rfl⟩ : ∃ u, top = u + 2 := ⟨top - 2, by omega⟩
                refine mm_I ok_Sp_worked 77 2 133 [some (.ref 1), some (.ref ca), some (.int (nI (u + 2))), some (.int (nI k)), some (.int s)] [.int 1, .int (nI (u + 2))] (hp_SH ++ dy, g1, r) [] rfl trivial rfl rfl (fun q => False.elim (nI_ge (show 1 < u + 2 by omega) (by omega) q)) (fun _ => ?_)
                refine mm_B ok_Sp_worked 80 1 (139, [some (.ref 1), some (.ref ca), some (.int ((nI (u + 2)) + (-1))), some (.int (nI k)), some (.int s)], [], (hp_SH ++ dy, g1, r)) [] rfl trivial ?_
                rw [pk_m1]
                refine mm_B ok_Sp_worked 81 16 (162, [some (.ref 1), some (.ref ca), some (.int (nI (u + 1))), some (.int (nI k)), some (.int s)], [.int (g1 14 ((nI (u + 1)).toNatClampNeg)), .int (g1 14 (((nI (u + 1)) - 1).toNatClampNeg)), .int s, .int ((nI (u + 1)) - 1), .ref 14], (hp_SH ++ dy, g1, r)) [vp_in ((nI (u + 1)) - 1) 160, vp_in (nI (u + 1)) 160] rfl (show (vp_in ((nI (u + 1)) - 1) 160) ∧ (vp_in (nI (u + 1)) 160) from ⟨(by rw [nI_pred]; exact nI_vi (by omega) (by decide)), (nI_vi (by omega) (by decide))⟩) ?_
                rw [nI_pred, nI_clamp (show u < 2 ^ 31 by omega), nI_clamp (show u + 1 < 2 ^ 31 by omega)]
                refine mm_cS (as := [.int s, .int (g1 14 (u)), .int (g1 14 ((u + 1)))]) (st := [.int (nI u), .ref 14]) cw_Sp_joined lk_Sp_167 sx_Sp_joined (mm_at ok_Sp_worked (i := 97) rfl).1 (ct_Sp_joined (hp_SH ++ dy, g1, r) s (g1 14 u) (g1 14 (u + 1))) (by decide) ⟨by omega, by omega⟩ (Nat.le_of_ble_eq_true rfl) (mm_vs_d _ hlt (mm_vs_b (b := 77) rfl (hp_len dy)) (fun k e => by cases e; exact Nat.lt_of_lt_of_le (by decide) (hp_len dy))) (fun v h' hqq => ?_)
                obtain ⟨rfl, hqe⟩ := hqq; rw [hqe]
                refine mm_B ok_Sp_worked 98 1 (166, [some (.ref 1), some (.ref ca), some (.int (nI (u + 1))), some (.int (nI k)), some (.int s)], [], (hp_SH ++ dy, mm_up g1 14 ((nI u).toNatClampNeg) (jn_ s (g1 14 u) (g1 14 (u + 1))), r)) [vp_in (nI u) 160] rfl (show vp_in (nI u) 160 from (nI_vi (by omega) (by decide))) ?_
                rw [nI_clamp (show u < 2 ^ 31 by omega)]
                refine mm_B ok_Sp_worked 99 2 (4, [some (.ref 1), some (.ref ca), some (.int (nI (u + 1))), some (.int ((nI k) + 1)), some (.int s)], [], (hp_SH ++ dy, mm_up g1 14 u (jn_ s (g1 14 u) (g1 14 (u + 1))), r)) [] rfl trivial ?_
                rw [nI_1]
                refine mm_fg [4] ?_
                refine ih (k + 1) (u + 1) _ hs.2 hk2 (by omega) (hF.up _ rfl) (by rw [mm_up_ne (by decide)]; exact hsc) ?_
                rw [mm_up_eq]
                exact hE
              · rw [if_neg h1] at hE
                refine mm_I ok_Sp_worked 77 2 133 [some (.ref 1), some (.ref ca), some (.int (nI top)), some (.int (nI k)), some (.int s)] [.int 1, .int (nI top)] (hp_SH ++ dy, g1, r) [] rfl trivial rfl rfl (fun _ => ?_) (fun q => False.elim (q (show nI top ≤ nI 1 from nI_le (by omega) (by omega))))
                refine mm_B ok_Sp_worked 99 2 (4, [some (.ref 1), some (.ref ca), some (.int (nI top)), some (.int ((nI k) + 1)), some (.int s)], [], (hp_SH ++ dy, g1, r)) [] rfl trivial ?_
                rw [nI_1]
                refine mm_fg [4] ?_
                exact ih (k + 1) top _ hs.2 hk2 (by omega) hF hsc hE
            refine mm_I ok_Sp_worked 58 2 104 [some (.ref 1), some (.ref ca), some (.int (nI top)), some (.int (nI k)), some (.int s)] [.int (-15), .int s] (hp_SH ++ dy, g1, r) [] rfl trivial rfl rfl (fun h15a => ?_) (fun h15a => ?_)
            · exact key2
            · refine mm_I ok_Sp_worked 61 1 108 [some (.ref 1), some (.ref ca), some (.int (nI top)), some (.int (nI k)), some (.int s)] [.int (nI top)] (hp_SH ++ dy, g1, r) [] rfl trivial rfl rfl (fun _ => ?_) (fun q => False.elim ((h15 ⟨h15a, Nat.pos_of_ne_zero (fun e => q (by rw [e]; decide))⟩)))
              exact key2
        refine mm_I ok_Sp_worked 36 2 66 [some (.ref 1), some (.ref ca), some (.int (nI top)), some (.int (nI k)), some (.int s)] [.int (-9), .int s] (hp_SH ++ dy, g1, r) [] rfl trivial rfl rfl (fun h9a => ?_) (fun h9a => ?_)
        · exact key
        · refine mm_I ok_Sp_worked 39 1 70 [some (.ref 1), some (.ref ca), some (.int (nI top)), some (.int (nI k)), some (.int s)] [.int (nI top)] (hp_SH ++ dy, g1, r) [] rfl trivial rfl rfl (fun _ => ?_) (fun q => False.elim ((h9 ⟨h9a, Nat.pos_of_ne_zero (fun e => q (by rw [e]; decide))⟩)))
          exact key
    · have e1 : wk_s sc s (top, g1 14) = (top + 1, upd (g1 14) top (if s < 0 then sc (-1 - s).toNatClampNeg else s)) := by rw [wk_s, if_neg h6]
      rw [e1] at hE
      refine mm_I ok_Sp_worked 19 0 28 [some (.ref 1), some (.ref ca), some (.int (nI top)), some (.int (nI k)), some (.int s)] [.int (-6), .int s] (hp_SH ++ dy, g1, r) [] rfl trivial rfl rfl (fun q => False.elim (h6 q)) (fun _ => ?_)
      refine mm_I ok_Sp_worked 20 4 38 [some (.ref 1), some (.ref ca), some (.int (nI top)), some (.int (nI k)), some (.int s)] [.int s, .int (nI top), .ref 14] (hp_SH ++ dy, g1, r) [] rfl trivial rfl rfl (fun h0 => ?_) (fun h0 => ?_)
      · rw [if_pos h0] at hE
        refine mm_B ok_Sp_worked 27 9 (166, [some (.ref 1), some (.ref ca), some (.int ((nI top) + 1)), some (.int (nI k)), some (.int s)], [], (hp_SH ++ dy, mm_up g1 14 ((nI top).toNatClampNeg) (g1 13 (((-1) - s).toNatClampNeg)), r)) [vp_in ((-1) - s) 6, vp_in (nI top) 160] rfl (show (vp_in ((-1) - s) 6) ∧ (vp_in (nI top) 160) from ⟨(wk_vi h6 h0), hvt⟩) ?_
        rw [nI_clamp (show top < 2 ^ 31 by omega), nI_1]
        refine mm_B ok_Sp_worked 99 2 (4, [some (.ref 1), some (.ref ca), some (.int (nI (top + 1))), some (.int ((nI k) + 1)), some (.int s)], [], (hp_SH ++ dy, mm_up g1 14 top (g1 13 (((-1) - s).toNatClampNeg)), r)) [] rfl trivial ?_
        rw [nI_1]
        refine mm_fg [4] ?_
        refine ih (k + 1) (top + 1) _ hs.2 hk2 (by omega) (hF.up _ rfl) (by rw [mm_up_ne (by decide)]; exact hsc) ?_
        rw [mm_up_eq]
        rw [← hsc] at hE
        rw [← hsc]
        exact hE
      · rw [if_neg h0] at hE
        refine mm_B ok_Sp_worked 25 2 (55, [some (.ref 1), some (.ref ca), some (.int (nI top)), some (.int (nI k)), some (.int s)], [.int s, .int (nI top), .ref 14], (hp_SH ++ dy, g1, r)) [] rfl trivial ?_
        refine mm_B ok_Sp_worked 33 3 (166, [some (.ref 1), some (.ref ca), some (.int ((nI top) + 1)), some (.int (nI k)), some (.int s)], [], (hp_SH ++ dy, mm_up g1 14 ((nI top).toNatClampNeg) s, r)) [vp_in (nI top) 160] rfl (show vp_in (nI top) 160 from hvt) ?_
        rw [nI_clamp (show top < 2 ^ 31 by omega), nI_1]
        refine mm_B ok_Sp_worked 99 2 (4, [some (.ref 1), some (.ref ca), some (.int (nI (top + 1))), some (.int ((nI k) + 1)), some (.int s)], [], (hp_SH ++ dy, mm_up g1 14 top s, r)) [] rfl trivial ?_
        rw [nI_1]
        refine mm_fg [4] ?_
        refine ih (k + 1) (top + 1) _ hs.2 hk2 (by omega) (hF.up _ rfl) (by rw [mm_up_ne (by decide)]; exact hsc) ?_
        rw [mm_up_eq]
        exact hE
theorem ct_Sp_worked (g P : Nat → Nat → Int32) (r : (Nat → Nat → Int64) × Nat × (Nat → Int32)) (dy : List mm_Sh) {ca : Nat} {cl : List Int32} {sc f0 : Nat → Int32} (hsh : (hp_SH ++ dy)[ca]? = some (.inl (0, cl.length))) (hcl : cl.length ≤ 155) (hns : ∀ j, nr_s ca j = false) (hct : ∀ i, i < cl.length → P ca i = cl.getD i 0) (hP0 : nr_ g = P) (h13 : g 13 = sc) (h14 : g 14 = f0) : mm_Ct 2 M_Sp_worked [.ref 1, .ref ca] (hp_SH ++ dy, g, r) 0 0 (fun v h' => v = some (.int (wk_v (wk_r sc cl (0, f0)))) ∧ ∃ g', h' = (hp_SH ++ dy, g', r) ∧ fr_ f1_ g g') := by
  refine mm_start pl_Sp (Nat.le_of_ble_eq_true rfl) ?_
  refine mm_B ok_Sp_worked 0 4 (4, [some (.ref 1), some (.ref ca), some (.int 0), some (.int 0), none], [], (hp_SH ++ dy, g, r)) [] rfl trivial ?_
  exact wk_go g P r dy hsh hcl hns hct hP0 cl 0 0 g rfl (by omega) (Nat.le_refl _) fr_.rf h13 (by rw [h14])

