/-! ===== the model's calls: run ===== -/
theorem wi_rn (w : Int32) : f_Mo_within w 0 99 = nI (sp_rn w) := by
  have h1 : (0 : Int32).toInt = 0 := rfl
  have h2 : (99 : Int32).toInt = 99 := rfl
  unfold f_Mo_within
  rw [← Int32.toInt_inj, nI_toInt (by unfold sp_rn; omega)]
  simp only [Int32.le_iff_toInt_le, h1, h2]
  unfold sp_rn
  repeat' split
  all_goals simp only [h1, h2] at *
  all_goals omega
theorem mco_go (dy : List mm_Sh) (g : Nat → Nat → Int32) (r : (Nat → Nat → Int64) × Nat × (Nat → Int32)) {A : sA} (hI : MI (nr_ g) A) {c on off : Nat} (hc : c < A.2.1.1) (hon : on ≤ A.2.1.2.1 c) (hoff : A.2.1.2.2.1 c ≤ off) (ho5 : off ≤ 5) {Q : Option Value → mm_Hp → Prop} {v2 v3 v4 v5 v6 : Int32} (hnx : ∀ g2 r2, r2.2 = r.2 → fr_ mz_ g g2 → nh_ (aC A) A.2.1.2.2.2 g2 → (∀ b, b < 6 → g2 67 b = pl_c (A.2.2.1.1 b)) → mm_W 75 M_Mo_run 0 0 Q 0 0 (176, [some (.ref 52), some (.int (nI c)), some (.int v2), some (.int v3), some (.int v4), some (.int v5), some (.int v6), some (.int (nI on)), some (.int (nI off)), some (.int (nI (co_ (aC A) A.2.1 c on off))), some (.int (nI (off + 1)))], [], (hp_SH ++ dy, g2, r2))) : ∀ (m d : Nat) (g1 : Nat → Nat → Int32) (r1 : (Nat → Nat → Int64) × Nat × (Nat → Int32)), on + d + m = off + 1 → r1.2 = r.2 → fr_ mz_ g g1 → nh_ (aC A) A.2.1.2.2.2 g1 → (∀ b, b < 6 → g1 67 b = pl_c (A.2.2.1.1 b)) → mm_W 75 M_Mo_run 0 0 Q 0 0 (115, [some (.ref 52), some (.int (nI c)), some (.int v2), some (.int v3), some (.int v4), some (.int v5), some (.int v6), some (.int (nI on)), some (.int (nI off)), some (.int (nI (sp_sum (co_f (aC A) A.2.1 c on) d))), some (.int (nI (on + d)))], [], (hp_SH ++ dy, g1, r1)) := by
  obtain ⟨hL, hK, hPl, hX, hB, hS, hIm⟩ := hI
  have hR := dX_R hX
  have h6 := hK.2.1
  obtain ⟨k1, k2, k3, k4, k5⟩ := hK.2.2 c hc
  intro m
  induction m with
  | zero =>
    intro d g1 r1 hd hr hF hnh h67
    have h8 := hnx g1 r1 hr hF hnh h67
    unfold co_ at h8
    rw [← show d = off + 1 - on by omega, ← show on + d = off + 1 by omega] at h8
    refine mm_I ok_Mo_run 67 2 119 [some (.ref 52), some (.int (nI c)), some (.int v2), some (.int v3), some (.int v4), some (.int v5), some (.int v6), some (.int (nI on)), some (.int (nI off)), some (.int (nI (sp_sum (co_f (aC A) A.2.1 c on) d))), some (.int (nI (on + d)))] [.int (nI off), .int (nI (on + d))] (hp_SH ++ dy, g1, r1) [] rfl trivial rfl rfl (fun _ => ?_) (fun q => False.elim (q (nI_lt (by omega) (by omega))))
    exact h8
  | succ m ih =>
    intro d g1 r1 hd hr hF hnh h67
    have hP1 := hF.nr mz_nr (rfl : nr_ g = nr_ g)
    have e59 : g1 59 (nI c).toNatClampNeg = nI (A.2.1.2.1 c) := by rw [nI_clamp (by omega), nr_at hP1 59 c rfl]; exact k1
    have e60 : g1 60 (nI c).toNatClampNeg = nI (A.2.1.2.2.1 c) := by rw [nI_clamp (by omega), nr_at hP1 60 c rfl]; exact k2
    have ih' := ih (d + 1)
    rw [show sp_sum (co_f (aC A) A.2.1 c on) (d + 1) = sp_sum (co_f (aC A) A.2.1 c on) d + co_f (aC A) A.2.1 c on d from rfl] at ih'
    generalize hst : sp_sum (co_f (aC A) A.2.1 c on) d = st at ih' ⊢
    unfold co_f at ih'
    have hsay : (A.2.1.2.1 c ≤ on + d → A.2.1.2.2.1 c < on + d) → mm_W 75 M_Mo_run 0 0 Q 0 0 (146, [some (.ref 52), some (.int (nI c)), some (.int v2), some (.int v3), some (.int v4), some (.int v5), some (.int v6), some (.int (nI on)), some (.int (nI off)), some (.int (nI st)), some (.int (nI (on + d)))], [.int (nI st)], (hp_SH ++ dy, g1, r1)) := fun hcd => by
      rw [if_pos (by omega)] at ih'
      refine mm_B ok_Mo_run 83 7 (154, [some (.ref 52), some (.int (nI c)), some (.int v2), some (.int v3), some (.int v4), some (.int v5), some (.int v6), some (.int (nI on)), some (.int (nI off)), some (.int (nI st)), some (.int (nI (on + d)))], [.int 0, .int 0, .int 0, .int (nI c), .int (nI (on + d)), .int 2, .ref 52, .int (nI st)], (hp_SH ++ dy, g1, r1)) [] rfl trivial ?_
      refine mm_cV (as := [.int 2, .int (nI (on + d)), .int (nI c), .int 0, .int 0, .int 0]) (st := [.int (nI st)]) (q := 52) cw_Mo_says lk_Mo_256 in_Mo_says sl_Mo_says rfl rfl (mm_at ok_Mo_run (i := 90) rfl).1 (ct_Mo_says dy g1 (nr_ g) r1 hP1 hR (w := 2) (c := c) (ag := A.2.1.2.2.2) (nI (on + d)) 0 0 0 (by decide) (by omega) k5) (by decide) ⟨by omega, by omega⟩ (Nat.le_of_ble_eq_true rfl) (mm_vs_b (b := 77) rfl (hp_len dy)) (fun v h' hqq => ?_)
      obtain ⟨rfl, g2, r2, hqe, hr2, hF2⟩ := hqq; rw [hqe]
      have hF4 := hF.tr (hF2.mono (fun k j h => mu_mj k j (mz_mu k j h)))
      refine mm_B ok_Mo_run 91 2 (160, [some (.ref 52), some (.int (nI c)), some (.int v2), some (.int v3), some (.int v4), some (.int v5), some (.int v6), some (.int (nI on)), some (.int (nI off)), some (.int (nI st)), some (.int (nI (on + d)))], [.int 99, .int 0, .int (sp_R (aC A) A.2.1.2.2.2 c (on + d)), .int (nI st)], (hp_SH ++ dy, g2, r2)) [] rfl trivial ?_
      refine mm_cS (as := [.int (sp_R (aC A) A.2.1.2.2.2 c (on + d)), .int 0, .int 99]) (st := [.int (nI st)]) cw_Mo_within lk_Mo_260 sx_Mo_within (mm_at ok_Mo_run (i := 93) rfl).1 (ct_Mo_within (hp_SH ++ dy, g2, r2) (sp_R (aC A) A.2.1.2.2.2 c (on + d)) 0 99) (by decide) ⟨by omega, by omega⟩ (Nat.le_of_ble_eq_true rfl) (mm_vs_b (b := 77) rfl (hp_len dy)) (fun v h' hqq => ?_)
      obtain ⟨rfl, hqe⟩ := hqq; rw [hqe, wi_rn]
      refine mm_B ok_Mo_run 94 1 (167, [some (.ref 52), some (.int (nI c)), some (.int v2), some (.int v3), some (.int v4), some (.int v5), some (.int v6), some (.int (nI on)), some (.int (nI off)), some (.int (nI st)), some (.int (nI (on + d)))], [.int (nI (sp_rn (sp_R (aC A) A.2.1.2.2.2 c (on + d)))), .int (nI st)], (hp_SH ++ dy, g2, r2)) [] rfl trivial ?_
      refine mm_B ok_Mo_run 96 4 (115, [some (.ref 52), some (.int (nI c)), some (.int v2), some (.int v3), some (.int v4), some (.int v5), some (.int v6), some (.int (nI on)), some (.int (nI off)), some (.int ((nI st) + (nI (sp_rn (sp_R (aC A) A.2.1.2.2.2 c (on + d)))))), some (.int ((nI (on + d)) + 1))], [], (hp_SH ++ dy, g2, r2)) [] rfl trivial ?_
      rw [nI_1, nI_add]
      exact ih' g2 r2 (by omega) (hr2.trans hr) hF4 (nh_fr hnh (fun i => hF2 63 i rfl)) (fun b hb => (hF2 67 b rfl).trans (h67 b hb))
    refine mm_I ok_Mo_run 67 2 119 [some (.ref 52), some (.int (nI c)), some (.int v2), some (.int v3), some (.int v4), some (.int v5), some (.int v6), some (.int (nI on)), some (.int (nI off)), some (.int (nI st)), some (.int (nI (on + d)))] [.int (nI off), .int (nI (on + d))] (hp_SH ++ dy, g1, r1) [] rfl trivial rfl rfl (fun q => False.elim (absurd q (nI_nlt (by omega) (by omega)))) (fun _ => ?_)
    refine mm_B ok_Mo_run 70 6 (132, [some (.ref 52), some (.int (nI c)), some (.int v2), some (.int v3), some (.int v4), some (.int v5), some (.int v6), some (.int (nI on)), some (.int (nI off)), some (.int (nI st)), some (.int (nI (on + d)))], [.int (g1 59 ((nI c).toNatClampNeg)), .int (nI (on + d)), .int (nI st)], (hp_SH ++ dy, g1, r1)) [vp_in (nI c) 6] rfl (show vp_in (nI c) 6 from (nI_vi (by omega) (by decide))) ?_
    rw [e59]
    refine mm_I ok_Mo_run 76 0 132 [some (.ref 52), some (.int (nI c)), some (.int v2), some (.int v3), some (.int v4), some (.int v5), some (.int v6), some (.int (nI on)), some (.int (nI off)), some (.int (nI st)), some (.int (nI (on + d)))] [.int (nI (A.2.1.2.1 c)), .int (nI (on + d)), .int (nI st)] (hp_SH ++ dy, g1, r1) [] rfl trivial rfl rfl (fun h1 => ?_) (fun h1 => ?_)
    · have h1 := (nI_ltI (by omega) (by omega)).mp h1
      exact hsay (fun h => by omega)
    · have h1 := (nI_leI (by omega) (by omega)).mp (Int32.not_lt.mp h1)
      refine mm_B ok_Mo_run 77 5 (143, [some (.ref 52), some (.int (nI c)), some (.int v2), some (.int v3), some (.int v4), some (.int v5), some (.int v6), some (.int (nI on)), some (.int (nI off)), some (.int (nI st)), some (.int (nI (on + d)))], [.int (g1 60 ((nI c).toNatClampNeg)), .int (nI (on + d)), .int (nI st)], (hp_SH ++ dy, g1, r1)) [vp_in (nI c) 6] rfl (show vp_in (nI c) 6 from (nI_vi (by omega) (by decide))) ?_
      rw [e60]
      refine mm_I ok_Mo_run 82 0 143 [some (.ref 52), some (.int (nI c)), some (.int v2), some (.int v3), some (.int v4), some (.int v5), some (.int v6), some (.int (nI on)), some (.int (nI off)), some (.int (nI st)), some (.int (nI (on + d)))] [.int (nI (A.2.1.2.2.1 c)), .int (nI (on + d)), .int (nI st)] (hp_SH ++ dy, g1, r1) [] rfl trivial rfl rfl (fun h2 => ?_) (fun h2 => ?_)
      · have h2 := (nI_leI (by omega) (by omega)).mp h2
        rw [if_neg (by omega)] at ih'
        refine mm_B ok_Mo_run 95 5 (115, [some (.ref 52), some (.int (nI c)), some (.int v2), some (.int v3), some (.int v4), some (.int v5), some (.int v6), some (.int (nI on)), some (.int (nI off)), some (.int ((nI st) + 0)), some (.int ((nI (on + d)) + 1))], [], (hp_SH ++ dy, g1, r1)) [] rfl trivial ?_
        rw [nI_1, show nI st + 0 = nI (st + 0) from nI_add st 0]
        exact ih' g1 r1 (by omega) hr hF hnh h67
      · have h2 := (nI_ltI (by omega) (by omega)).mp (Int32.not_le.mp h2)
        exact hsay (fun _ => h2)
theorem mru_in (dy : List mm_Sh) (g : Nat → Nat → Int32) (r : (Nat → Nat → Int64) × Nat × (Nat → Int32)) {A : sA} (hI : MI (nr_ g) A) (hSI : SI A) {c ls w on : Nat} (hc : c < A.2.1.1) (hls : ls < 16) (hon : on ≤ A.2.1.2.1 c) {Q : Option Value → mm_Hp → Prop} {st0 : Nat × Nat} (h100 : st0.1 < 1000) (hnx : ∀ g2 r2, r2.2 = r.2 → fr_ mz_ g g2 → nh_ (aC A) A.2.1.2.2.2 g2 → (∀ b, b < 6 → g2 67 b = pl_c (A.2.2.1.1 b)) → mm_W 75 M_Mo_run 0 0 Q 0 0 (207, [some (.ref 52), some (.int (nI c)), some (.int (nI ls)), some (.int (nI w)), some (.int (nI (bd_ (ru_i A c ls on) (6 - A.2.1.2.2.1 c) st0).1 - 1)), some (.int (ro_ (bd_ (ru_i A c ls on) (6 - A.2.1.2.2.1 c) st0).2)), some (.int (rf_ (bd_ (ru_i A c ls on) (6 - A.2.1.2.2.1 c) st0).2)), some (.int (nI on)), some (.int (nI 6)), none, none], [], (hp_SH ++ dy, g2, r2))) : ∀ (m d : Nat) (g1 : Nat → Nat → Int32) (r1 : (Nat → Nat → Int64) × Nat × (Nat → Int32)), A.2.1.2.2.1 c + d + m = 6 → r1.2 = r.2 → fr_ mz_ g g1 → nh_ (aC A) A.2.1.2.2.2 g1 → (∀ b, b < 6 → g1 67 b = pl_c (A.2.2.1.1 b)) → mm_W 75 M_Mo_run 0 0 Q 0 0 (80, [some (.ref 52), some (.int (nI c)), some (.int (nI ls)), some (.int (nI w)), some (.int (nI (bd_ (ru_i A c ls on) d st0).1 - 1)), some (.int (ro_ (bd_ (ru_i A c ls on) d st0).2)), some (.int (rf_ (bd_ (ru_i A c ls on) d st0).2)), some (.int (nI on)), some (.int (nI (A.2.1.2.2.1 c + d))), none, none], [], (hp_SH ++ dy, g1, r1)) := by
  have hI' := hI
  obtain ⟨hL, hK, hPl, hX, hB, hS, hIm⟩ := hI'
  have hR := dX_R hX
  have h4 := hL.2.1
  have h6 := hK.2.1
  have e10 : g 52 10 = nI A.1.1 := by rw [← nr_eq g (k := 52) (j := 10) rfl]; exact hL.1
  have e14 : g 52 14 = nI A.2.1.1 := by rw [← nr_eq g (k := 52) (j := 14) rfl]; exact hK.1
  have hpl : ∀ b, b < 6 → g 62 b = pl_c (A.2.2.1.1 b) := fun b hb => by rw [← nr_eq g (k := 62) (j := b) rfl]; exact (hPl b hb).1
  have hot : ∀ b, b < 6 → g 62 (6 + b) = pl_c (A.2.2.1.2 b) := fun b hb => by rw [← nr_eq g (k := 62) (j := 6 + b) rfl]; exact (hPl b hb).2
  have hpo : ∀ b l, b < 6 → A.2.2.1.1 b = some l → l < A.1.1 := fun b l hb h => hSI.1 b l hb (Or.inl h)
  obtain ⟨k1, k2, k3, k4, k5⟩ := hK.2.2 c hc
  intro m
  induction m with
  | zero =>
    intro d g1 r1 hd hr hF hnh h67
    rw [show d = 6 - A.2.1.2.2.1 c by omega, show A.2.1.2.2.1 c + (6 - A.2.1.2.2.1 c) = 6 by omega]
    generalize hst : bd_ (ru_i A c ls on) (6 - A.2.1.2.2.1 c) st0 = st at hnx ⊢
    refine mm_I ok_Mo_run 47 2 84 [some (.ref 52), some (.int (nI c)), some (.int (nI ls)), some (.int (nI w)), some (.int (nI st.1 - 1)), some (.int (ro_ st.2)), some (.int (rf_ st.2)), some (.int (nI on)), some (.int (nI 6)), none, none] [.int 6, .int (nI 6)] (hp_SH ++ dy, g1, r1) [] rfl trivial rfl rfl (fun _ => ?_) (fun q => False.elim (q (by decide)))
    exact hnx g1 r1 hr hF hnh h67
  | succ m ih =>
    intro d g1 r1 hd hr hF hnh h67
    have ih' := ih (d + 1)
    have hs100 := ru_il (A := A) (c := c) (ls := ls) (on := on) h100 d (by omega)
    rw [show bd_ (ru_i A c ls on) (d + 1) st0 = ru_i A c ls on d (bd_ (ru_i A c ls on) d st0) from rfl] at ih'
    generalize hst : bd_ (ru_i A c ls on) d st0 = st at ih' hs100 ⊢
    unfold ru_i at ih'
    have hP1 := hF.nr mz_nr (rfl : nr_ g = nr_ g)
    refine mm_I ok_Mo_run 47 2 84 [some (.ref 52), some (.int (nI c)), some (.int (nI ls)), some (.int (nI w)), some (.int (nI st.1 - 1)), some (.int (ro_ st.2)), some (.int (rf_ st.2)), some (.int (nI on)), some (.int (nI (A.2.1.2.2.1 c + d))), none, none] [.int 6, .int (nI (A.2.1.2.2.1 c + d))] (hp_SH ++ dy, g1, r1) [] rfl trivial rfl rfl (fun q => False.elim (nI_ge (b := 6) (show A.2.1.2.2.1 c + d < 6 by omega) (by decide) q)) (fun _ => ?_)
    refine mm_B ok_Mo_run 50 4 (93, [some (.ref 52), some (.int (nI c)), some (.int (nI ls)), some (.int (nI w)), some (.int (nI st.1 - 1)), some (.int (ro_ st.2)), some (.int (rf_ st.2)), some (.int (nI on)), some (.int (nI (A.2.1.2.2.1 c + d))), none, none], [.int (nI (A.2.1.2.2.1 c + d)), .int (nI on), .int (nI c), .ref 52], (hp_SH ++ dy, g1, r1)) [] rfl trivial ?_
    refine mm_cV (as := [.int (nI c), .int (nI on), .int (nI (A.2.1.2.2.1 c + d))]) (st := []) (q := 52) cw_Mo_spring lk_Mo_288 in_Mo_spring sl_Mo_spring rfl rfl (mm_at ok_Mo_run (i := 54) rfl).1 (ct_Mo_spring dy g1 (nr_ g) r1 hP1 hR hL (ag := A.2.1.2.2.2) (c := c) (on := on) (off := A.2.1.2.2.1 c + d) (by omega) (by omega) (by omega) h67 hpo k5 hnh) (by decide) ⟨by omega, by omega⟩ (Nat.le_of_ble_eq_true rfl) (mm_vs_b (b := 77) rfl (hp_len dy)) (fun v h' hqq => ?_)
    obtain ⟨rfl, g2, r2, hqe, hr2, hF3, h364, hnh2, hrw, h68⟩ := hqq; rw [hqe]
    have hF2 := hF.tr (hF3.mono mz_mp)
    have h672 : ∀ b, b < 6 → g2 67 b = pl_c (A.2.2.1.1 b) := fun b hb => (hF3 67 b rfl).trans (h67 b hb)
    have e5 : g2 68 5 = nI (ru_h A c on (A.2.1.2.2.1 c + d)) := h68 5 (by decide)
    refine mm_B ok_Mo_run 55 7 (105, [some (.ref 52), some (.int (nI c)), some (.int (nI ls)), some (.int (nI w)), some (.int (nI st.1 - 1)), some (.int (ro_ st.2)), some (.int (rf_ st.2)), some (.int (nI on)), some (.int (nI (A.2.1.2.2.1 c + d))), none, none], [.int (nI ls), .int ((g2 68 5) &&& (nI ls))], (hp_SH ++ dy, g2, r2)) [vp_in 5 6] rfl (show vp_in 5 6 from (by first | exact mm_vi rfl | assumption | decide)) ?_
    rw [e5]
    refine mm_I ok_Mo_run 62 0 105 [some (.ref 52), some (.int (nI c)), some (.int (nI ls)), some (.int (nI w)), some (.int (nI st.1 - 1)), some (.int (ro_ st.2)), some (.int (rf_ st.2)), some (.int (nI on)), some (.int (nI (A.2.1.2.2.1 c + d))), none, none] [.int (nI ls), .int ((nI (ru_h A c on (A.2.1.2.2.1 c + d))) &&& (nI ls))] (hp_SH ++ dy, g2, r2) [] rfl trivial rfl rfl (fun hq => ?_) (fun hq => ?_)
    · rw [if_neg hq] at ih'
      refine mm_B ok_Mo_run 112 2 (80, [some (.ref 52), some (.int (nI c)), some (.int (nI ls)), some (.int (nI w)), some (.int (nI st.1 - 1)), some (.int (ro_ st.2)), some (.int (rf_ st.2)), some (.int (nI on)), some (.int ((nI (A.2.1.2.2.1 c + d)) + 1)), none, none], [], (hp_SH ++ dy, g2, r2)) [] rfl trivial ?_
      rw [nI_1]
      exact ih' g2 r2 (by omega) (hr2.trans hr) hF2 hnh2 h672
    · rw [if_pos hq] at ih'
      refine mm_B ok_Mo_run 63 4 (115, [some (.ref 52), some (.int (nI c)), some (.int (nI ls)), some (.int (nI w)), some (.int (nI st.1 - 1)), some (.int (ro_ st.2)), some (.int (rf_ st.2)), some (.int (nI on)), some (.int (nI (A.2.1.2.2.1 c + d))), some (.int 0), some (.int (nI on))], [], (hp_SH ++ dy, g2, r2)) [] rfl trivial ?_
      refine mco_go dy g r hI hc hon (off := A.2.1.2.2.1 c + d) (by omega) (by omega) (fun g3 r3 hr3 hF4 hnh3 h673 => ?_) (A.2.1.2.2.1 c + d + 1 - on) 0 g2 r2 (by omega) (hr2.trans hr) hF2 hnh2 h672
      have hco := co_le (C := aC A) (K := A.2.1) (c := c) (on := on) (off := A.2.1.2.2.1 c + d) (by omega)
      generalize hcv : co_ (aC A) A.2.1 c on (A.2.1.2.2.1 c + d) = co at ih' hco ⊢
      have hat := ro_at (on := on) (off := A.2.1.2.2.1 c + d) (by omega)
      by_cases h2 : st.1 = 0
      · rw [if_pos (Or.inl h2)] at ih'
        refine mm_I ok_Mo_run 100 2 179 [some (.ref 52), some (.int (nI c)), some (.int (nI ls)), some (.int (nI w)), some (.int (nI st.1 - 1)), some (.int (ro_ st.2)), some (.int (rf_ st.2)), some (.int (nI on)), some (.int (nI (A.2.1.2.2.1 c + d))), some (.int (nI co)), some (.int (nI (A.2.1.2.2.1 c + d + 1)))] [.int (-1), .int (nI st.1 - 1)] (hp_SH ++ dy, g3, r3) [] rfl trivial rfl rfl (fun _ => ?_) (fun q => False.elim (q (by rw [h2]; rfl)))
        refine mm_B ok_Mo_run 106 8 (80, [some (.ref 52), some (.int (nI c)), some (.int (nI ls)), some (.int (nI w)), some (.int (nI co)), some (.int (nI on)), some (.int (nI (A.2.1.2.2.1 c + d))), some (.int (nI on)), some (.int ((nI (A.2.1.2.2.1 c + d)) + 1)), some (.int (nI co)), some (.int (nI (A.2.1.2.2.1 c + d + 1)))], [], (hp_SH ++ dy, g3, r3)) [] rfl trivial ?_
        refine mm_fg [9, 10] ?_
        rw [nI_1]
        have h8 := ih' g3 r3 (by omega) hr3 hF4 hnh3 h673
        simp only [] at h8
        rw [hat.1, hat.2, nI_pred] at h8
        exact h8
      · refine mm_I ok_Mo_run 100 2 179 [some (.ref 52), some (.int (nI c)), some (.int (nI ls)), some (.int (nI w)), some (.int (nI st.1 - 1)), some (.int (ro_ st.2)), some (.int (rf_ st.2)), some (.int (nI on)), some (.int (nI (A.2.1.2.2.1 c + d))), some (.int (nI co)), some (.int (nI (A.2.1.2.2.1 c + d + 1)))] [.int (-1), .int (nI st.1 - 1)] (hp_SH ++ dy, g3, r3) [] rfl trivial rfl rfl (fun q => False.elim (m1_ne (l := st.1 - 1) (by omega) (by rw [← nI_sub (by omega)]; exact q))) (fun _ => ?_)
        refine mm_I ok_Mo_run 103 2 186 [some (.ref 52), some (.int (nI c)), some (.int (nI ls)), some (.int (nI w)), some (.int (nI st.1 - 1)), some (.int (ro_ st.2)), some (.int (rf_ st.2)), some (.int (nI on)), some (.int (nI (A.2.1.2.2.1 c + d))), some (.int (nI co)), some (.int (nI (A.2.1.2.2.1 c + d + 1)))] [.int (nI st.1 - 1), .int (nI co)] (hp_SH ++ dy, g3, r3) [] rfl trivial rfl rfl (fun h3 => ?_) (fun h3 => ?_)
        · rw [if_neg (fun q => by
            rcases q with q | q
            · exact h2 q
            · rw [show nI st.1 - 1 = nI (st.1 - 1) from nI_sub (b := 1) (by omega)] at h3
              have := (nI_leI (by omega) (by omega)).mp h3
              omega)] at ih'
          refine mm_B ok_Mo_run 112 2 (80, [some (.ref 52), some (.int (nI c)), some (.int (nI ls)), some (.int (nI w)), some (.int (nI st.1 - 1)), some (.int (ro_ st.2)), some (.int (rf_ st.2)), some (.int (nI on)), some (.int ((nI (A.2.1.2.2.1 c + d)) + 1)), some (.int (nI co)), some (.int (nI (A.2.1.2.2.1 c + d + 1)))], [], (hp_SH ++ dy, g3, r3)) [] rfl trivial ?_
          refine mm_fg [9, 10] ?_
          rw [nI_1]
          exact ih' g3 r3 (by omega) hr3 hF4 hnh3 h673
        · rw [if_pos (Or.inr (by
            rw [show nI st.1 - 1 = nI (st.1 - 1) from nI_sub (b := 1) (by omega)] at h3
            have := mt (nI_leI (a := st.1 - 1) (b := co) (by omega) (by omega)).mpr h3
            omega))] at ih'
          refine mm_B ok_Mo_run 106 8 (80, [some (.ref 52), some (.int (nI c)), some (.int (nI ls)), some (.int (nI w)), some (.int (nI co)), some (.int (nI on)), some (.int (nI (A.2.1.2.2.1 c + d))), some (.int (nI on)), some (.int ((nI (A.2.1.2.2.1 c + d)) + 1)), some (.int (nI co)), some (.int (nI (A.2.1.2.2.1 c + d + 1)))], [], (hp_SH ++ dy, g3, r3)) [] rfl trivial ?_
          refine mm_fg [9, 10] ?_
          rw [nI_1]
          have h8 := ih' g3 r3 (by omega) hr3 hF4 hnh3 h673
          simp only [] at h8
          rw [hat.1, hat.2, nI_pred] at h8
          exact h8
theorem mru_go (dy : List mm_Sh) (g : Nat → Nat → Int32) (r : (Nat → Nat → Int64) × Nat × (Nat → Int32)) {A : sA} (hI : MI (nr_ g) A) (hSI : SI A) {c ls w : Nat} (hc : c < A.2.1.1) (hls : ls < 16) (hw : w < 3) : ∀ (m on : Nat) (g1 : Nat → Nat → Int32) (r1 : (Nat → Nat → Int64) × Nat × (Nat → Int32)), on + m = A.2.1.2.1 c + 1 → r1.2 = r.2 → fr_ mz_ g g1 → nh_ (aC A) A.2.1.2.2.2 g1 → (∀ b, b < 6 → g1 67 b = pl_c (A.2.2.1.1 b)) → mm_W 75 M_Mo_run 0 0 (RM dy g r A (.int (if w = 0 then nI (ru_ A c ls (A.2.1.2.1 c + 1)).1 - 1 else if w = 1 then ro_ (ru_ A c ls (A.2.1.2.1 c + 1)).2 else rf_ (ru_ A c ls (A.2.1.2.1 c + 1)).2))) 0 0 (61, [some (.ref 52), some (.int (nI c)), some (.int (nI ls)), some (.int (nI w)), some (.int (nI (ru_ A c ls on).1 - 1)), some (.int (ro_ (ru_ A c ls on).2)), some (.int (rf_ (ru_ A c ls on).2)), some (.int (nI on)), none, none, none], [], (hp_SH ++ dy, g1, r1)) := by
  have hI' := hI
  obtain ⟨hL, hK, hPl, hX, hB, hS, hIm⟩ := hI'
  have hR := dX_R hX
  have h4 := hL.2.1
  have h6 := hK.2.1
  have e10 : g 52 10 = nI A.1.1 := by rw [← nr_eq g (k := 52) (j := 10) rfl]; exact hL.1
  have e14 : g 52 14 = nI A.2.1.1 := by rw [← nr_eq g (k := 52) (j := 14) rfl]; exact hK.1
  have hpl : ∀ b, b < 6 → g 62 b = pl_c (A.2.2.1.1 b) := fun b hb => by rw [← nr_eq g (k := 62) (j := b) rfl]; exact (hPl b hb).1
  have hot : ∀ b, b < 6 → g 62 (6 + b) = pl_c (A.2.2.1.2 b) := fun b hb => by rw [← nr_eq g (k := 62) (j := 6 + b) rfl]; exact (hPl b hb).2
  have hpo : ∀ b l, b < 6 → A.2.2.1.1 b = some l → l < A.1.1 := fun b l hb h => hSI.1 b l hb (Or.inl h)
  obtain ⟨k1, k2, k3, k4, k5⟩ := hK.2.2 c hc
  intro m
  induction m with
  | zero =>
    intro on g1 r1 hon hr hF hnh h67
    have e59 : g1 59 (nI c).toNatClampNeg = nI (A.2.1.2.1 c) := by rw [nI_clamp (by omega), nr_at (hF.nr mz_nr (rfl : nr_ g = nr_ g)) 59 c rfl]; exact k1
    rw [← show on = A.2.1.2.1 c + 1 by omega]
    generalize hst : ru_ A c ls on = st
    refine mm_B ok_Mo_run 36 5 (69, [some (.ref 52), some (.int (nI c)), some (.int (nI ls)), some (.int (nI w)), some (.int (nI st.1 - 1)), some (.int (ro_ st.2)), some (.int (rf_ st.2)), some (.int (nI on)), none, none, none], [.int (g1 59 ((nI c).toNatClampNeg)), .int (nI on)], (hp_SH ++ dy, g1, r1)) [vp_in (nI c) 6] rfl (show vp_in (nI c) 6 from (nI_vi (by omega) (by decide))) ?_
    rw [e59]
    refine mm_I ok_Mo_run 41 0 69 [some (.ref 52), some (.int (nI c)), some (.int (nI ls)), some (.int (nI w)), some (.int (nI st.1 - 1)), some (.int (ro_ st.2)), some (.int (rf_ st.2)), some (.int (nI on)), none, none, none] [.int (nI (A.2.1.2.1 c)), .int (nI on)] (hp_SH ++ dy, g1, r1) [] rfl trivial rfl rfl (fun _ => ?_) (fun q => False.elim (q (nI_lt (by omega) (by omega))))
    rcases (show w = 0 ∨ w = 1 ∨ w = 2 by omega) with hw | hw | hw
    · subst hw
      rw [if_pos rfl]
      refine mm_I ok_Mo_run 116 1 214 [some (.ref 52), some (.int (nI c)), some (.int (nI ls)), some (.int (nI 0)), some (.int (nI st.1 - 1)), some (.int (ro_ st.2)), some (.int (rf_ st.2)), some (.int (nI on)), none, none, none] [.int (nI 0)] (hp_SH ++ dy, g1, r1) [] rfl trivial rfl rfl (fun q => False.elim (q rfl)) (fun _ => ?_)
      refine mm_B ok_Mo_run 118 2 (234, [some (.ref 52), some (.int (nI c)), some (.int (nI ls)), some (.int (nI 0)), some (.int (nI st.1 - 1)), some (.int (ro_ st.2)), some (.int (rf_ st.2)), some (.int (nI on)), none, none, none], [.int (nI st.1 - 1)], (hp_SH ++ dy, g1, r1)) [] rfl trivial ?_
      exact mm_ri rfl (mm_at ok_Mo_run (i := 126) rfl).1 ⟨Nat.le_refl _, Nat.le_refl _⟩ (RM_q hr hI (hF.mono dz_mz))
    · subst hw
      rw [if_neg (by decide), if_pos rfl]
      refine mm_I ok_Mo_run 116 1 214 [some (.ref 52), some (.int (nI c)), some (.int (nI ls)), some (.int (nI 1)), some (.int (nI st.1 - 1)), some (.int (ro_ st.2)), some (.int (rf_ st.2)), some (.int (nI on)), none, none, none] [.int (nI 1)] (hp_SH ++ dy, g1, r1) [] rfl trivial rfl rfl (fun _ => ?_) (fun q => False.elim (absurd q (by decide)))
      refine mm_I ok_Mo_run 120 2 224 [some (.ref 52), some (.int (nI c)), some (.int (nI ls)), some (.int (nI 1)), some (.int (nI st.1 - 1)), some (.int (ro_ st.2)), some (.int (rf_ st.2)), some (.int (nI on)), none, none, none] [.int 1, .int (nI 1)] (hp_SH ++ dy, g1, r1) [] rfl trivial rfl rfl (fun q => False.elim (q rfl)) (fun _ => ?_)
      refine mm_B ok_Mo_run 123 2 (234, [some (.ref 52), some (.int (nI c)), some (.int (nI ls)), some (.int (nI 1)), some (.int (nI st.1 - 1)), some (.int (ro_ st.2)), some (.int (rf_ st.2)), some (.int (nI on)), none, none, none], [.int (ro_ st.2)], (hp_SH ++ dy, g1, r1)) [] rfl trivial ?_
      exact mm_ri rfl (mm_at ok_Mo_run (i := 126) rfl).1 ⟨Nat.le_refl _, Nat.le_refl _⟩ (RM_q hr hI (hF.mono dz_mz))
    · subst hw
      rw [if_neg (by decide), if_neg (by decide)]
      refine mm_I ok_Mo_run 116 1 214 [some (.ref 52), some (.int (nI c)), some (.int (nI ls)), some (.int (nI 2)), some (.int (nI st.1 - 1)), some (.int (ro_ st.2)), some (.int (rf_ st.2)), some (.int (nI on)), none, none, none] [.int (nI 2)] (hp_SH ++ dy, g1, r1) [] rfl trivial rfl rfl (fun _ => ?_) (fun q => False.elim (absurd q (by decide)))
      refine mm_I ok_Mo_run 120 2 224 [some (.ref 52), some (.int (nI c)), some (.int (nI ls)), some (.int (nI 2)), some (.int (nI st.1 - 1)), some (.int (ro_ st.2)), some (.int (rf_ st.2)), some (.int (nI on)), none, none, none] [.int 1, .int (nI 2)] (hp_SH ++ dy, g1, r1) [] rfl trivial rfl rfl (fun _ => ?_) (fun q => False.elim (absurd q (by decide)))
      refine mm_B ok_Mo_run 125 1 (234, [some (.ref 52), some (.int (nI c)), some (.int (nI ls)), some (.int (nI 2)), some (.int (nI st.1 - 1)), some (.int (ro_ st.2)), some (.int (rf_ st.2)), some (.int (nI on)), none, none, none], [.int (rf_ st.2)], (hp_SH ++ dy, g1, r1)) [] rfl trivial ?_
      exact mm_ri rfl (mm_at ok_Mo_run (i := 126) rfl).1 ⟨Nat.le_refl _, Nat.le_refl _⟩ (RM_q hr hI (hF.mono dz_mz))
  | succ m ih =>
    intro on g1 r1 hon hr hF hnh h67
    have hP1 := hF.nr mz_nr (rfl : nr_ g = nr_ g)
    have e59 : g1 59 (nI c).toNatClampNeg = nI (A.2.1.2.1 c) := by rw [nI_clamp (by omega), nr_at hP1 59 c rfl]; exact k1
    have e60 : g1 60 (nI c).toNatClampNeg = nI (A.2.1.2.2.1 c) := by rw [nI_clamp (by omega), nr_at hP1 60 c rfl]; exact k2
    have hab := ru_l (A := A) (c := c) (ls := ls) k4 on
    have ih' := ih (on + 1)
    rw [show ru_ A c ls (on + 1) = bd_ (ru_i A c ls on) (6 - A.2.1.2.2.1 c) (ru_ A c ls on) from rfl] at ih'
    generalize hst : ru_ A c ls on = st at ih' hab ⊢
    refine mm_B ok_Mo_run 36 5 (69, [some (.ref 52), some (.int (nI c)), some (.int (nI ls)), some (.int (nI w)), some (.int (nI st.1 - 1)), some (.int (ro_ st.2)), some (.int (rf_ st.2)), some (.int (nI on)), none, none, none], [.int (g1 59 ((nI c).toNatClampNeg)), .int (nI on)], (hp_SH ++ dy, g1, r1)) [vp_in (nI c) 6] rfl (show vp_in (nI c) 6 from (nI_vi (by omega) (by decide))) ?_
    rw [e59]
    refine mm_I ok_Mo_run 41 0 69 [some (.ref 52), some (.int (nI c)), some (.int (nI ls)), some (.int (nI w)), some (.int (nI st.1 - 1)), some (.int (ro_ st.2)), some (.int (rf_ st.2)), some (.int (nI on)), none, none, none] [.int (nI (A.2.1.2.1 c)), .int (nI on)] (hp_SH ++ dy, g1, r1) [] rfl trivial rfl rfl (fun q => False.elim (absurd q (nI_nlt (show on ≤ A.2.1.2.1 c by omega) (by omega)))) (fun _ => ?_)
    refine mm_B ok_Mo_run 42 5 (80, [some (.ref 52), some (.int (nI c)), some (.int (nI ls)), some (.int (nI w)), some (.int (nI st.1 - 1)), some (.int (ro_ st.2)), some (.int (rf_ st.2)), some (.int (nI on)), some (.int (g1 60 ((nI c).toNatClampNeg))), none, none], [], (hp_SH ++ dy, g1, r1)) [vp_in (nI c) 6] rfl (show vp_in (nI c) 6 from (nI_vi (by omega) (by decide))) ?_
    rw [e60]
    refine mru_in dy g r hI hSI hc hls (on := on) (by omega) (st0 := st) hab (fun g2 r2 hr2 hF2 hnh2 h672 => ?_) (6 - A.2.1.2.2.1 c) 0 g1 r1 (by omega) hr hF hnh h67
    generalize hst2 : bd_ (ru_i A c ls on) (6 - A.2.1.2.2.1 c) st = st2 at ih' ⊢
    refine mm_B ok_Mo_run 114 2 (61, [some (.ref 52), some (.int (nI c)), some (.int (nI ls)), some (.int (nI w)), some (.int (nI st2.1 - 1)), some (.int (ro_ st2.2)), some (.int (rf_ st2.2)), some (.int ((nI on) + 1)), some (.int (nI 6)), none, none], [], (hp_SH ++ dy, g2, r2)) [] rfl trivial ?_
    refine mm_fg [8] ?_
    rw [nI_1]
    exact ih' g2 r2 (by omega) hr2 hF2 hnh2 h672
theorem mls_ok {n : Nat} (h : n ≤ 4) (x : Int32) : f_Mo_in x.toInt64 0 (nI (2 ^ n) - 1).toInt64 = iz_ (ix_ (2 ^ n) x) := by
  have h16 := p2_16 h
  rw [i0_]
  exact in_ix (by omega) x
theorem cm_run (dy : List mm_Sh) (g : Nat → Nat → Int32) (r : (Nat → Nat → Int64) × Nat × (Nat → Int32)) {A : sA} (hI : MI (nr_ g) A) (hSI : SI A) (c ls w : Int32) : mm_Ct 75 M_Mo_run [.ref 52, .int c, .int ls, .int w] (hp_SH ++ dy, g, r) 0 0 (RM dy g r A (.int (an_run A c ls w))) := by
  have hI' := hI
  obtain ⟨hL, hK, hPl, hX, hB, hS, hIm⟩ := hI'
  have hR := dX_R hX
  have h4 := hL.2.1
  have h16 := p2_16 h4
  have h6 := hK.2.1
  have e10 : g 52 10 = nI A.1.1 := by rw [← nr_eq g (k := 52) (j := 10) rfl]; exact hL.1
  have e14 : g 52 14 = nI A.2.1.1 := by rw [← nr_eq g (k := 52) (j := 14) rfl]; exact hK.1
  have hpl : ∀ b, b < 6 → g 62 b = pl_c (A.2.2.1.1 b) := fun b hb => by rw [← nr_eq g (k := 62) (j := b) rfl]; exact (hPl b hb).1
  have hot : ∀ b, b < 6 → g 62 (6 + b) = pl_c (A.2.2.1.2 b) := fun b hb => by rw [← nr_eq g (k := 62) (j := 6 + b) rfl]; exact (hPl b hb).2
  have hpo : ∀ b l, b < 6 → A.2.2.1.1 b = some l → l < A.1.1 := fun b l hb h => hSI.1 b l hb (Or.inl h)
  refine mm_start pl_Mo (Nat.le_of_ble_eq_true rfl) ?_
  cases hx1 : ix_ A.2.1.1 c with
  | none =>
    rw [show an_run A c ls w = (-2) by unfold an_run; rw [hx1]]
    refine mm_B ok_Mo_run 0 2 (2, [some (.ref 52), some (.int c), some (.int ls), some (.int w), none, none, none, none, none, none, none], [.int c, .ref 52], (hp_SH ++ dy, g, r)) [] rfl trivial ?_
    refine mm_cV (as := [.int c]) (st := []) (q := 52) cw_Mo_isChild lk_Mo_121 in_Mo_isChild sl_Mo_isChild rfl rfl (mm_at ok_Mo_run (i := 2) rfl).1 (ct_Mo_isChild dy g r c) (by decide) ⟨by omega, by omega⟩ (Nat.le_of_ble_eq_true rfl) (mm_vs_b (b := 77) rfl (hp_len dy)) (fun v h' hqq => ?_)
    obtain ⟨rfl, hqe⟩ := hqq; rw [hqe]
    rw [mc_x (by omega) e14 c, hx1]
    refine mm_I ok_Mo_run 3 0 5 [some (.ref 52), some (.int c), some (.int ls), some (.int w), none, none, none, none, none, none, none] [.int (iz_ none)] (hp_SH ++ dy, g, r) [] rfl trivial rfl rfl (fun _ => ?_) (fun q => False.elim (q rfl))
    refine mm_B ok_Mo_run 22 1 (40, [some (.ref 52), some (.int c), some (.int ls), some (.int w), none, none, none, none, none, none, none], [.int (-2)], (hp_SH ++ dy, g, r)) [] rfl trivial ?_
    exact mm_ri rfl (mm_at ok_Mo_run (i := 23) rfl).1 ⟨Nat.le_refl _, Nat.le_refl _⟩ (RM_q rfl hI fr_.rf)
  | some i =>
    obtain ⟨hl1, rfl⟩ := ix_some (by omega) hx1
    cases hx2 : ix_ (2 ^ A.1.1) ls with
    | none =>
      rw [show an_run A (nI i) ls w = (-2) by unfold an_run; rw [hx1, hx2]]
      refine mm_B ok_Mo_run 0 2 (2, [some (.ref 52), some (.int (nI i)), some (.int ls), some (.int w), none, none, none, none, none, none, none], [.int (nI i), .ref 52], (hp_SH ++ dy, g, r)) [] rfl trivial ?_
      refine mm_cV (as := [.int (nI i)]) (st := []) (q := 52) cw_Mo_isChild lk_Mo_121 in_Mo_isChild sl_Mo_isChild rfl rfl (mm_at ok_Mo_run (i := 2) rfl).1 (ct_Mo_isChild dy g r (nI i)) (by decide) ⟨by omega, by omega⟩ (Nat.le_of_ble_eq_true rfl) (mm_vs_b (b := 77) rfl (hp_len dy)) (fun v h' hqq => ?_)
      obtain ⟨rfl, hqe⟩ := hqq; rw [hqe]
      rw [mc_x (by omega) e14 (nI i), ix_at hl1 (by omega)]
      refine mm_I ok_Mo_run 3 0 5 [some (.ref 52), some (.int (nI i)), some (.int ls), some (.int w), none, none, none, none, none, none, none] [.int (iz_ (some i))] (hp_SH ++ dy, g, r) [] rfl trivial rfl rfl (fun q => False.elim (one0 q)) (fun _ => ?_)
      refine mm_B ok_Mo_run 4 10 (20, [some (.ref 52), some (.int (nI i)), some (.int ls), some (.int w), none, none, none, none, none, none, none], [.long (((1 <<< ((g 52 10) &&& 31)) - 1)).toInt64, .long 0, .long (ls).toInt64], (hp_SH ++ dy, g, r)) [] rfl trivial ?_
      rw [e10, ev6' _ (show A.1.1 ≤ 6 by omega)]
      refine mm_cS (as := [.long (ls).toInt64, .long 0, .long (((nI (2 ^ A.1.1)) - 1)).toInt64]) (st := []) cw_Mo_in lk_Mo_100 sx_Mo_in (mm_at ok_Mo_run (i := 14) rfl).1 (ct_Mo_in (hp_SH ++ dy, g, r) ls.toInt64 0 (nI (2 ^ A.1.1) - 1).toInt64) (by decide) ⟨by omega, by omega⟩ (Nat.le_of_ble_eq_true rfl) (mm_vs_b (b := 77) rfl (hp_len dy)) (fun v h' hqq => ?_)
      obtain ⟨rfl, hqe⟩ := hqq; rw [hqe]
      rw [mls_ok (show A.1.1 ≤ 4 by omega) ls, hx2]
      refine mm_I ok_Mo_run 15 0 23 [some (.ref 52), some (.int (nI i)), some (.int ls), some (.int w), none, none, none, none, none, none, none] [.int (iz_ none)] (hp_SH ++ dy, g, r) [] rfl trivial rfl rfl (fun _ => ?_) (fun q => False.elim (q rfl))
      refine mm_B ok_Mo_run 22 1 (40, [some (.ref 52), some (.int (nI i)), some (.int ls), some (.int w), none, none, none, none, none, none, none], [.int (-2)], (hp_SH ++ dy, g, r)) [] rfl trivial ?_
      exact mm_ri rfl (mm_at ok_Mo_run (i := 23) rfl).1 ⟨Nat.le_refl _, Nat.le_refl _⟩ (RM_q rfl hI fr_.rf)
    | some k =>
      obtain ⟨hl2, rfl⟩ := ix_some (by omega) hx2
      cases hx3 : ix_ 3 w with
      | none =>
        rw [show an_run A (nI i) (nI k) w = (-2) by unfold an_run; rw [hx1, hx2, hx3]]
        refine mm_B ok_Mo_run 0 2 (2, [some (.ref 52), some (.int (nI i)), some (.int (nI k)), some (.int w), none, none, none, none, none, none, none], [.int (nI i), .ref 52], (hp_SH ++ dy, g, r)) [] rfl trivial ?_
        refine mm_cV (as := [.int (nI i)]) (st := []) (q := 52) cw_Mo_isChild lk_Mo_121 in_Mo_isChild sl_Mo_isChild rfl rfl (mm_at ok_Mo_run (i := 2) rfl).1 (ct_Mo_isChild dy g r (nI i)) (by decide) ⟨by omega, by omega⟩ (Nat.le_of_ble_eq_true rfl) (mm_vs_b (b := 77) rfl (hp_len dy)) (fun v h' hqq => ?_)
        obtain ⟨rfl, hqe⟩ := hqq; rw [hqe]
        rw [mc_x (by omega) e14 (nI i), ix_at hl1 (by omega)]
        refine mm_I ok_Mo_run 3 0 5 [some (.ref 52), some (.int (nI i)), some (.int (nI k)), some (.int w), none, none, none, none, none, none, none] [.int (iz_ (some i))] (hp_SH ++ dy, g, r) [] rfl trivial rfl rfl (fun q => False.elim (one0 q)) (fun _ => ?_)
        refine mm_B ok_Mo_run 4 10 (20, [some (.ref 52), some (.int (nI i)), some (.int (nI k)), some (.int w), none, none, none, none, none, none, none], [.long (((1 <<< ((g 52 10) &&& 31)) - 1)).toInt64, .long 0, .long ((nI k)).toInt64], (hp_SH ++ dy, g, r)) [] rfl trivial ?_
        rw [e10, ev6' _ (show A.1.1 ≤ 6 by omega)]
        refine mm_cS (as := [.long ((nI k)).toInt64, .long 0, .long (((nI (2 ^ A.1.1)) - 1)).toInt64]) (st := []) cw_Mo_in lk_Mo_100 sx_Mo_in (mm_at ok_Mo_run (i := 14) rfl).1 (ct_Mo_in (hp_SH ++ dy, g, r) (nI k).toInt64 0 (nI (2 ^ A.1.1) - 1).toInt64) (by decide) ⟨by omega, by omega⟩ (Nat.le_of_ble_eq_true rfl) (mm_vs_b (b := 77) rfl (hp_len dy)) (fun v h' hqq => ?_)
        obtain ⟨rfl, hqe⟩ := hqq; rw [hqe]
        rw [mls_ok (show A.1.1 ≤ 4 by omega) (nI k), ix_at hl2 (by omega)]
        refine mm_I ok_Mo_run 15 0 23 [some (.ref 52), some (.int (nI i)), some (.int (nI k)), some (.int w), none, none, none, none, none, none, none] [.int (iz_ (some k))] (hp_SH ++ dy, g, r) [] rfl trivial rfl rfl (fun q => False.elim (one0 q)) (fun _ => ?_)
        refine mm_B ok_Mo_run 16 4 (32, [some (.ref 52), some (.int (nI i)), some (.int (nI k)), some (.int w), none, none, none, none, none, none, none], [.long 2, .long 0, .long (w).toInt64], (hp_SH ++ dy, g, r)) [] rfl trivial ?_
        refine mm_cS (as := [.long (w).toInt64, .long 0, .long 2]) (st := []) cw_Mo_in lk_Mo_100 sx_Mo_in (mm_at ok_Mo_run (i := 20) rfl).1 (ct_Mo_in (hp_SH ++ dy, g, r) w.toInt64 0 2) (by decide) ⟨by omega, by omega⟩ (Nat.le_of_ble_eq_true rfl) (mm_vs_b (b := 77) rfl (hp_len dy)) (fun v h' hqq => ?_)
        obtain ⟨rfl, hqe⟩ := hqq; rw [hqe]
        rw [in_3 w, hx3]
        refine mm_I ok_Mo_run 21 0 35 [some (.ref 52), some (.int (nI i)), some (.int (nI k)), some (.int w), none, none, none, none, none, none, none] [.int (iz_ none)] (hp_SH ++ dy, g, r) [] rfl trivial rfl rfl (fun q => False.elim (q rfl)) (fun _ => ?_)
        refine mm_B ok_Mo_run 22 1 (40, [some (.ref 52), some (.int (nI i)), some (.int (nI k)), some (.int w), none, none, none, none, none, none, none], [.int (-2)], (hp_SH ++ dy, g, r)) [] rfl trivial ?_
        exact mm_ri rfl (mm_at ok_Mo_run (i := 23) rfl).1 ⟨Nat.le_refl _, Nat.le_refl _⟩ (RM_q rfl hI fr_.rf)
      | some j =>
        obtain ⟨hl3, rfl⟩ := ix_some (by omega) hx3
        rw [show an_run A (nI i) (nI k) (nI j) = (if j = 0 then nI (ru_ A i k (A.2.1.2.1 i + 1)).1 - 1 else if j = 1 then ro_ (ru_ A i k (A.2.1.2.1 i + 1)).2 else rf_ (ru_ A i k (A.2.1.2.1 i + 1)).2) from by unfold an_run; rw [hx1, hx2, hx3]]
        refine mm_B ok_Mo_run 0 2 (2, [some (.ref 52), some (.int (nI i)), some (.int (nI k)), some (.int (nI j)), none, none, none, none, none, none, none], [.int (nI i), .ref 52], (hp_SH ++ dy, g, r)) [] rfl trivial ?_
        refine mm_cV (as := [.int (nI i)]) (st := []) (q := 52) cw_Mo_isChild lk_Mo_121 in_Mo_isChild sl_Mo_isChild rfl rfl (mm_at ok_Mo_run (i := 2) rfl).1 (ct_Mo_isChild dy g r (nI i)) (by decide) ⟨by omega, by omega⟩ (Nat.le_of_ble_eq_true rfl) (mm_vs_b (b := 77) rfl (hp_len dy)) (fun v h' hqq => ?_)
        obtain ⟨rfl, hqe⟩ := hqq; rw [hqe]
        rw [mc_x (by omega) e14 (nI i), ix_at hl1 (by omega)]
        refine mm_I ok_Mo_run 3 0 5 [some (.ref 52), some (.int (nI i)), some (.int (nI k)), some (.int (nI j)), none, none, none, none, none, none, none] [.int (iz_ (some i))] (hp_SH ++ dy, g, r) [] rfl trivial rfl rfl (fun q => False.elim (one0 q)) (fun _ => ?_)
        refine mm_B ok_Mo_run 4 10 (20, [some (.ref 52), some (.int (nI i)), some (.int (nI k)), some (.int (nI j)), none, none, none, none, none, none, none], [.long (((1 <<< ((g 52 10) &&& 31)) - 1)).toInt64, .long 0, .long ((nI k)).toInt64], (hp_SH ++ dy, g, r)) [] rfl trivial ?_
        rw [e10, ev6' _ (show A.1.1 ≤ 6 by omega)]
        refine mm_cS (as := [.long ((nI k)).toInt64, .long 0, .long (((nI (2 ^ A.1.1)) - 1)).toInt64]) (st := []) cw_Mo_in lk_Mo_100 sx_Mo_in (mm_at ok_Mo_run (i := 14) rfl).1 (ct_Mo_in (hp_SH ++ dy, g, r) (nI k).toInt64 0 (nI (2 ^ A.1.1) - 1).toInt64) (by decide) ⟨by omega, by omega⟩ (Nat.le_of_ble_eq_true rfl) (mm_vs_b (b := 77) rfl (hp_len dy)) (fun v h' hqq => ?_)
        obtain ⟨rfl, hqe⟩ := hqq; rw [hqe]
        rw [mls_ok (show A.1.1 ≤ 4 by omega) (nI k), ix_at hl2 (by omega)]
        refine mm_I ok_Mo_run 15 0 23 [some (.ref 52), some (.int (nI i)), some (.int (nI k)), some (.int (nI j)), none, none, none, none, none, none, none] [.int (iz_ (some k))] (hp_SH ++ dy, g, r) [] rfl trivial rfl rfl (fun q => False.elim (one0 q)) (fun _ => ?_)
        refine mm_B ok_Mo_run 16 4 (32, [some (.ref 52), some (.int (nI i)), some (.int (nI k)), some (.int (nI j)), none, none, none, none, none, none, none], [.long 2, .long 0, .long ((nI j)).toInt64], (hp_SH ++ dy, g, r)) [] rfl trivial ?_
        refine mm_cS (as := [.long ((nI j)).toInt64, .long 0, .long 2]) (st := []) cw_Mo_in lk_Mo_100 sx_Mo_in (mm_at ok_Mo_run (i := 20) rfl).1 (ct_Mo_in (hp_SH ++ dy, g, r) (nI j).toInt64 0 2) (by decide) ⟨by omega, by omega⟩ (Nat.le_of_ble_eq_true rfl) (mm_vs_b (b := 77) rfl (hp_len dy)) (fun v h' hqq => ?_)
        obtain ⟨rfl, hqe⟩ := hqq; rw [hqe]
        rw [in_3 (nI j), ix_at hl3 (by omega)]
        refine mm_I ok_Mo_run 21 0 35 [some (.ref 52), some (.int (nI i)), some (.int (nI k)), some (.int (nI j)), none, none, none, none, none, none, none] [.int (iz_ (some j))] (hp_SH ++ dy, g, r) [] rfl trivial rfl rfl (fun _ => ?_) (fun q => False.elim (one0 q))
        refine mm_B ok_Mo_run 24 1 (42, [some (.ref 52), some (.int (nI i)), some (.int (nI k)), some (.int (nI j)), none, none, none, none, none, none, none], [.ref 52], (hp_SH ++ dy, g, r)) [] rfl trivial ?_
        refine mm_cV (as := []) (st := []) (q := 52) cw_Mo_forgets lk_Mo_298 in_Mo_forgets sl_Mo_forgets rfl rfl (mm_at ok_Mo_run (i := 25) rfl).1 (ct_Mo_forgets dy g r) (by decide) ⟨by omega, by omega⟩ (Nat.le_of_ble_eq_true rfl) (mm_vs_b (b := 77) rfl (hp_len dy)) (fun v h' hqq => ?_)
        obtain ⟨rfl, g1, hqe, hF1, h63, h64⟩ := hqq; rw [hqe]
        refine mm_B ok_Mo_run 26 1 (46, [some (.ref 52), some (.int (nI i)), some (.int (nI k)), some (.int (nI j)), none, none, none, none, none, none, none], [.ref 52], (hp_SH ++ dy, g1, r)) [] rfl trivial ?_
        refine mm_cV (as := []) (st := []) (q := 52) cw_Mo_takesPlan lk_Mo_301 in_Mo_takesPlan sl_Mo_takesPlan rfl rfl (mm_at ok_Mo_run (i := 27) rfl).1 (ct_Mo_takesPlan dy g1 r) (by decide) ⟨by omega, by omega⟩ (Nat.le_of_ble_eq_true rfl) (mm_vs_b (b := 77) rfl (hp_len dy)) (fun v h' hqq => ?_)
        obtain ⟨rfl, g2, hqe, hF2, h67⟩ := hqq; rw [hqe]
        obtain ⟨hF, hnh, hnw, h67'⟩ := beg_ok (C := aC A) (ag := A.2.1.2.2.2) hF1 h63 h64 hF2 h67 hpl
        have hP2 := hF.nr mz_nr (rfl : nr_ g = nr_ g)
        refine mm_B ok_Mo_run 28 8 (61, [some (.ref 52), some (.int (nI i)), some (.int (nI k)), some (.int (nI j)), some (.int (-1)), some (.int (-1)), some (.int (-1)), some (.int 0), none, none, none], [], (hp_SH ++ dy, g2, r)) [] rfl trivial ?_
        exact mru_go dy g r hI hSI hl1 (by omega) hl3 (A.2.1.2.1 i + 1) 0 g2 r (by omega) rfl hF hnh h67'

