/-! ===== the program's calls: run ===== -/
theorem p2_16 {n : Nat} (h : n ≤ 4) : 2 ^ n ≤ 16 := by
  rcases (show n = 0 ∨ n = 1 ∨ n = 2 ∨ n = 3 ∨ n = 4 by omega) with rfl | rfl | rfl | rfl | rfl <;> decide
theorem ar_ok {n : Nat} (hn : n ≤ 4) (x : Int32) : f_Sc_areLessons x (nI n) = iz_ (ix_ (2 ^ n) x) := by
  have hm : ((nI n).toUInt32 &&& Int32.toUInt32 31).toNat = n := by
    rcases (show n = 0 ∨ n = 1 ∨ n = 2 ∨ n = 3 ∨ n = 4 by omega) with rfl | rfl | rfl | rfl | rfl <;> decide
  have hp : 2 ^ n ≤ 16 := by
    rcases (show n = 0 ∨ n = 1 ∨ n = 2 ∨ n = 3 ∨ n = 4 by omega) with rfl | rfl | rfl | rfl | rfl <;> decide
  have hu : x.toInt = if 2 * x.toBitVec.toNat < 2 ^ 32 then (x.toBitVec.toNat : Int) else (x.toBitVec.toNat : Int) - (2 ^ 32 : Nat) := BitVec.toInt_eq_toNat_cond x.toBitVec
  have hlt : x.toBitVec.toNat < 2 ^ 32 := x.toBitVec.isLt
  have hs : (x.toUInt32 >>> ((nI n).toUInt32 &&& Int32.toUInt32 31)).toNat = x.toBitVec.toNat / 2 ^ n := by
    rw [UInt32.toNat_shiftRight, hm, Nat.mod_eq_of_lt (by omega), Nat.shiftRight_eq_div_pow]
    rfl
  have hk : (x.toUInt32 >>> ((nI n).toUInt32 &&& Int32.toUInt32 31)).toInt32 = 0 ↔ x.toBitVec.toNat < 2 ^ n := by
    have h0 : 0 < 2 ^ n := Nat.pow_pos (by decide)
    rw [← Nat.div_eq_zero_iff_lt h0, ← hs]
    exact ⟨fun h => congrArg (fun z => z.toBitVec.toNat) h, fun h => by rw [show x.toUInt32 >>> ((nI n).toUInt32 &&& Int32.toUInt32 31) = 0 from UInt32.toNat_inj.mp h]; rfl⟩
  rw [iz_ix]
  unfold f_Sc_areLessons
  by_cases h : x.toBitVec.toNat < 2 ^ n
  · rw [if_pos (by omega)] at hu
    rw [if_pos (hk.mpr h), if_neg, if_neg]
    · rw [Int32.le_iff_toInt_le, nI_toInt (by omega), hu]
      omega
    · rw [Int32.lt_iff_toInt_lt, hu, show (0 : Int32).toInt = 0 from rfl]
      omega
  · rw [if_neg (fun q => h (hk.mp q))]
    by_cases h2 : 2 * x.toBitVec.toNat < 2 ^ 32
    · rw [if_pos h2] at hu
      rw [if_neg, if_pos]
      · rw [Int32.le_iff_toInt_le, nI_toInt (by omega), hu]
        omega
      · rw [Int32.lt_iff_toInt_lt, hu, show (0 : Int32).toInt = 0 from rfl]
        omega
    · rw [if_neg h2] at hu
      rw [if_pos]
      rw [Int32.lt_iff_toInt_lt, hu, show (0 : Int32).toInt = 0 from rfl]
      omega
theorem rnn_le (w : Int32) : sp_rn w ≤ 99 := by
  unfold sp_rn
  omega
theorem sum_z {f : Nat → Nat} {a : Nat} : ∀ n, (∀ j, a ≤ j → j < a + n → f j = 0) → sp_sum f (a + n) = sp_sum f a
  | 0, _ => rfl
  | n + 1, h => by
    rw [← Nat.add_assoc]
    simp only [sp_sum]
    rw [h (a + n) (by omega) (by omega), sum_z n (fun j h1 h2 => h j h1 (by omega)), Nat.add_zero]
def co_f (C : Nat → List Int32) (K : sp_K) (c on d : Nat) : Nat := if on + d < K.2.1 c ∨ K.2.2.1 c < on + d then sp_rn (sp_R C K.2.2.2 c (on + d)) else 0
def co_ (C : Nat → List Int32) (K : sp_K) (c on off : Nat) : Nat := sp_sum (co_f C K c on) (off + 1 - on)
theorem co_le {C : Nat → List Int32} {K : sp_K} {c on off : Nat} (h : off ≤ 5) : co_ C K c on off ≤ 600 := by
  have h1 : co_ C K c on off ≤ (off + 1 - on) * 99 := sum_le _ (fun d _ => by
    unfold co_f
    split
    · exact rnn_le _
    · omega)
  have : (off + 1 - on) * 99 ≤ 6 * 99 := Nat.mul_le_mul_right _ (by omega)
  omega
abbrev co_Q (dy : List mm_Sh) (g : Nat → Nat → Int32) (r : (Nat → Nat → Int64) × Nat × (Nat → Int32)) (x : Nat) : Option Value → mm_Hp → Prop := fun v h' => v = some (.int (nI x)) ∧ ∃ g', h' = (hp_SH ++ dy, g', r) ∧ fr_ f1_ g g'
theorem cos_2 (dy : List mm_Sh) (g P : Nat → Nat → Int32) (r : (Nat → Nat → Int64) × Nat × (Nat → Int32)) (hP : nr_ g = P) {C : Nat → List Int32} (hR : rt_R dy P C) {T : sp_T} (hL : rl_L T P) {K : sp_K} {c on off : Nat} (hK : rl_C K P) (hc : c < K.1) (hon : on ≤ K.2.1 c) (hoff : K.2.2.1 c ≤ off) (ho5 : off ≤ 5) : ∀ (m d : Nat) (g1 : Nat → Nat → Int32), on + d + m = off + 1 → K.2.2.1 c < on + d → fr_ f1_ g g1 → mm_W 5 M_Sc_costOf 0 0 (co_Q dy g r (co_ C K c on off)) 0 0 (60, [some (.ref 0), some (.int (nI c)), some (.int (nI on)), some (.int (nI off)), some (.int (nI (sp_sum (co_f C K c on) d))), some (.int (nI (on + d)))], [], (hp_SH ++ dy, g1, r)) := by
  have h6 := hK.2.1
  obtain ⟨k1, k2, k3, k4, k5⟩ := hK.2.2 c hc
  intro m
  induction m with
  | zero =>
    intro d g1 hd hd2 hF
    refine mm_I ok_Sc_costOf 31 2 63 [some (.ref 0), some (.int (nI c)), some (.int (nI on)), some (.int (nI off)), some (.int (nI (sp_sum (co_f C K c on) d))), some (.int (nI (on + d)))] [.int (nI off), .int (nI (on + d))] (hp_SH ++ dy, g1, r) [] rfl trivial rfl rfl (fun _ => ?_) (fun q => False.elim (q (nI_lt (by omega) (by omega))))
    refine mm_B ok_Sc_costOf 44 1 (89, [some (.ref 0), some (.int (nI c)), some (.int (nI on)), some (.int (nI off)), some (.int (nI (sp_sum (co_f C K c on) d))), some (.int (nI (on + d)))], [.int (nI (sp_sum (co_f C K c on) d))], (hp_SH ++ dy, g1, r)) [] rfl trivial ?_
    exact mm_ri rfl (mm_at ok_Sc_costOf (i := 45) rfl).1 ⟨Nat.le_refl _, Nat.le_refl _⟩ (⟨by unfold co_; rw [show d = off + 1 - on by omega], g1, rfl, hF⟩)
  | succ m ih =>
    intro d g1 hd hd2 hF
    refine mm_I ok_Sc_costOf 31 2 63 [some (.ref 0), some (.int (nI c)), some (.int (nI on)), some (.int (nI off)), some (.int (nI (sp_sum (co_f C K c on) d))), some (.int (nI (on + d)))] [.int (nI off), .int (nI (on + d))] (hp_SH ++ dy, g1, r) [] rfl trivial rfl rfl (fun q => False.elim (absurd q (nI_nlt (by omega) (by omega)))) (fun _ => ?_)
    refine mm_B ok_Sc_costOf 34 5 (75, [some (.ref 0), some (.int (nI c)), some (.int (nI on)), some (.int (nI off)), some (.int (nI (sp_sum (co_f C K c on) d))), some (.int (nI (on + d)))], [.int (nI (on + d)), .int (nI c), .ref 1, .int (nI (sp_sum (co_f C K c on) d))], (hp_SH ++ dy, g1, r)) [] rfl trivial ?_
    refine mm_cV (as := [.int (nI c), .int (nI (on + d))]) (st := [.int (nI (sp_sum (co_f C K c on) d))]) (q := 1) cw_Sp_runCost lk_Sc_299 in_Sp_runCost sl_Sp_runCost rfl rfl (mm_at ok_Sc_costOf (i := 39) rfl).1 (ct_Sp_runCost dy g1 P r (hF.nr f1_nr hP) hR (b := on + d) (by omega) k5) (by decide) ⟨by omega, by omega⟩ (Nat.le_of_ble_eq_true rfl) (mm_vs_b (b := 77) rfl (hp_len dy)) (fun v h' hqq => ?_)
    obtain ⟨rfl, g2, hqe, hF1⟩ := hqq; rw [hqe]
    refine mm_B ok_Sc_costOf 40 4 (60, [some (.ref 0), some (.int (nI c)), some (.int (nI on)), some (.int (nI off)), some (.int ((nI (sp_sum (co_f C K c on) d)) + (nI (sp_rn (sp_R C K.2.2.2 c (on + d)))))), some (.int ((nI (on + d)) + 1))], [], (hp_SH ++ dy, g2, r)) [] rfl trivial ?_
    rw [nI_1, nI_add]
    have h8 := ih (d + 1) g2 (by omega) (by omega) (hF.tr hF1)
    rw [show sp_sum (co_f C K c on) (d + 1) = sp_sum (co_f C K c on) d + sp_rn (sp_R C K.2.2.2 c (on + d)) by simp only [sp_sum]; unfold co_f; rw [if_pos (Or.inr (by omega))]] at h8
    exact h8
theorem cos_1 (dy : List mm_Sh) (g P : Nat → Nat → Int32) (r : (Nat → Nat → Int64) × Nat × (Nat → Int32)) (hP : nr_ g = P) {C : Nat → List Int32} (hR : rt_R dy P C) {T : sp_T} (hL : rl_L T P) {K : sp_K} {c on off : Nat} (hK : rl_C K P) (hc : c < K.1) (hon : on ≤ K.2.1 c) (hoff : K.2.2.1 c ≤ off) (ho5 : off ≤ 5) : ∀ (m d : Nat) (g1 : Nat → Nat → Int32), on + d + m = K.2.1 c → fr_ f1_ g g1 → mm_W 5 M_Sc_costOf 0 0 (co_Q dy g r (co_ C K c on off)) 0 0 (6, [some (.ref 0), some (.int (nI c)), some (.int (nI on)), some (.int (nI off)), some (.int (nI (sp_sum (co_f C K c on) d))), some (.int (nI (on + d)))], [], (hp_SH ++ dy, g1, r)) := by
  have h6 := hK.2.1
  obtain ⟨k1, k2, k3, k4, k5⟩ := hK.2.2 c hc
  intro m
  induction m with
  | zero =>
    intro d g1 hd hF
    have e6 : g1 6 (nI c).toNatClampNeg = nI (K.2.1 c) := by rw [nI_clamp (by omega), nr_at (hF.nr f1_nr hP) 6 c rfl]; exact k1
    have e7 : g1 7 (nI c).toNatClampNeg = nI (K.2.2.1 c) := by rw [nI_clamp (by omega), nr_at (hF.nr f1_nr hP) 7 c rfl]; exact k2
    refine mm_B ok_Sc_costOf 4 7 (20, [some (.ref 0), some (.int (nI c)), some (.int (nI on)), some (.int (nI off)), some (.int (nI (sp_sum (co_f C K c on) d))), some (.int (nI (on + d)))], [.int (g1 6 ((nI c).toNatClampNeg)), .int (nI (on + d))], (hp_SH ++ dy, g1, r)) [vp_in (nI c) 6] rfl (show vp_in (nI c) 6 from (nI_vi (by omega) (by decide))) ?_
    rw [e6]
    refine mm_I ok_Sc_costOf 11 0 20 [some (.ref 0), some (.int (nI c)), some (.int (nI on)), some (.int (nI off)), some (.int (nI (sp_sum (co_f C K c on) d))), some (.int (nI (on + d)))] [.int (nI (K.2.1 c)), .int (nI (on + d))] (hp_SH ++ dy, g1, r) [] rfl trivial rfl rfl (fun _ => ?_) (fun q => False.elim (q (nI_le (by omega) (by omega))))
    refine mm_B ok_Sc_costOf 22 9 (60, [some (.ref 0), some (.int (nI c)), some (.int (nI on)), some (.int (nI off)), some (.int (nI (sp_sum (co_f C K c on) d))), some (.int ((g1 7 ((nI c).toNatClampNeg)) + 1))], [], (hp_SH ++ dy, g1, r)) [vp_in (nI c) 6] rfl (show vp_in (nI c) 6 from (nI_vi (by omega) (by decide))) ?_
    rw [e7, nI_1]
    have h8 := cos_2 dy g P r hP hR hL hK hc hon hoff ho5 (off - K.2.2.1 c) (K.2.2.1 c + 1 - on) g1 (by omega) (by omega) hF
    rw [show K.2.2.1 c + 1 - on = d + (K.2.2.1 c + 1 - on - d) by omega, sum_z _ (fun j h1 h2 => by unfold co_f; rw [if_neg (by omega)]), show on + (d + (K.2.2.1 c + 1 - on - d)) = K.2.2.1 c + 1 by omega] at h8
    exact h8
  | succ m ih =>
    intro d g1 hd hF
    have e6 : g1 6 (nI c).toNatClampNeg = nI (K.2.1 c) := by rw [nI_clamp (by omega), nr_at (hF.nr f1_nr hP) 6 c rfl]; exact k1
    refine mm_B ok_Sc_costOf 4 7 (20, [some (.ref 0), some (.int (nI c)), some (.int (nI on)), some (.int (nI off)), some (.int (nI (sp_sum (co_f C K c on) d))), some (.int (nI (on + d)))], [.int (g1 6 ((nI c).toNatClampNeg)), .int (nI (on + d))], (hp_SH ++ dy, g1, r)) [vp_in (nI c) 6] rfl (show vp_in (nI c) 6 from (nI_vi (by omega) (by decide))) ?_
    rw [e6]
    refine mm_I ok_Sc_costOf 11 0 20 [some (.ref 0), some (.int (nI c)), some (.int (nI on)), some (.int (nI off)), some (.int (nI (sp_sum (co_f C K c on) d))), some (.int (nI (on + d)))] [.int (nI (K.2.1 c)), .int (nI (on + d))] (hp_SH ++ dy, g1, r) [] rfl trivial rfl rfl (fun q => False.elim (nI_ge (show on + d < K.2.1 c by omega) (by omega) q)) (fun _ => ?_)
    refine mm_B ok_Sc_costOf 12 5 (32, [some (.ref 0), some (.int (nI c)), some (.int (nI on)), some (.int (nI off)), some (.int (nI (sp_sum (co_f C K c on) d))), some (.int (nI (on + d)))], [.int (nI (on + d)), .int (nI c), .ref 1, .int (nI (sp_sum (co_f C K c on) d))], (hp_SH ++ dy, g1, r)) [] rfl trivial ?_
    refine mm_cV (as := [.int (nI c), .int (nI (on + d))]) (st := [.int (nI (sp_sum (co_f C K c on) d))]) (q := 1) cw_Sp_runCost lk_Sc_299 in_Sp_runCost sl_Sp_runCost rfl rfl (mm_at ok_Sc_costOf (i := 17) rfl).1 (ct_Sp_runCost dy g1 P r (hF.nr f1_nr hP) hR (b := on + d) (by omega) k5) (by decide) ⟨by omega, by omega⟩ (Nat.le_of_ble_eq_true rfl) (mm_vs_b (b := 77) rfl (hp_len dy)) (fun v h' hqq => ?_)
    obtain ⟨rfl, g2, hqe, hF1⟩ := hqq; rw [hqe]
    refine mm_B ok_Sc_costOf 18 4 (6, [some (.ref 0), some (.int (nI c)), some (.int (nI on)), some (.int (nI off)), some (.int ((nI (sp_sum (co_f C K c on) d)) + (nI (sp_rn (sp_R C K.2.2.2 c (on + d)))))), some (.int ((nI (on + d)) + 1))], [], (hp_SH ++ dy, g2, r)) [] rfl trivial ?_
    rw [nI_1, nI_add]
    have h8 := ih (d + 1) g2 (by omega) (hF.tr hF1)
    rw [show sp_sum (co_f C K c on) (d + 1) = sp_sum (co_f C K c on) d + sp_rn (sp_R C K.2.2.2 c (on + d)) by simp only [sp_sum]; unfold co_f; rw [if_pos (Or.inl (by omega))]] at h8
    exact h8
theorem ct_Sc_costOf (dy : List mm_Sh) (g P : Nat → Nat → Int32) (r : (Nat → Nat → Int64) × Nat × (Nat → Int32)) (hP : nr_ g = P) {C : Nat → List Int32} (hR : rt_R dy P C) {T : sp_T} (hL : rl_L T P) {K : sp_K} {c on off : Nat} (hK : rl_C K P) (hc : c < K.1) (hon : on ≤ K.2.1 c) (hoff : K.2.2.1 c ≤ off) (ho5 : off ≤ 5) : mm_Ct 5 M_Sc_costOf [.ref 0, .int (nI c), .int (nI on), .int (nI off)] (hp_SH ++ dy, g, r) 0 0 (co_Q dy g r (co_ C K c on off)) := by
  refine mm_start pl_Sc (Nat.le_of_ble_eq_true rfl) ?_
  refine mm_B ok_Sc_costOf 0 4 (6, [some (.ref 0), some (.int (nI c)), some (.int (nI on)), some (.int (nI off)), some (.int 0), some (.int (nI on))], [], (hp_SH ++ dy, g, r)) [] rfl trivial ?_
  exact cos_1 dy g P r hP hR hL hK hc hon hoff ho5 (K.2.1 c - on) 0 g (by omega) fr_.rf
def ro_ (x : Nat) : Int32 := if x = 0 then -1 else nI ((x - 1) / 6)
def rf_ (x : Nat) : Int32 := if x = 0 then -1 else nI ((x - 1) % 6)
theorem ro_at {on off : Nat} (h : off < 6) : ro_ (6 * on + off + 1) = nI on ∧ rf_ (6 * on + off + 1) = nI off := by
  unfold ro_ rf_
  rw [if_neg (by omega), if_neg (by omega), show 6 * on + off + 1 - 1 = 6 * on + off by omega, show (6 * on + off) / 6 = on by omega, show (6 * on + off) % 6 = off by omega]
  exact ⟨rfl, rfl⟩
/-- who gets off at offs + d, on at on -/
noncomputable def ru_h (A : sA) (c on off : Nat) : Nat := sp_has A.1 (sp_run A.1 (sp_H (aC A) A.2.1.2.2.2 c) A.2.2.1.1 on off 6).2 5
noncomputable def ru_i (A : sA) (c ls on d : Nat) (st : Nat × Nat) : Nat × Nat := if nI (ru_h A c on (A.2.1.2.2.1 c + d)) &&& nI ls = nI ls then (if st.1 = 0 ∨ co_ (aC A) A.2.1 c on (A.2.1.2.2.1 c + d) + 1 < st.1 then (co_ (aC A) A.2.1 c on (A.2.1.2.2.1 c + d) + 1, 6 * on + (A.2.1.2.2.1 c + d) + 1) else st) else st
noncomputable def ru_ (A : sA) (c ls n : Nat) : Nat × Nat := bd_ (fun on => bd_ (ru_i A c ls on) (6 - A.2.1.2.2.1 c)) n (0, 0)
theorem ru_il {A : sA} {c ls on : Nat} {st : Nat × Nat} (h : st.1 < 1000) : ∀ d, A.2.1.2.2.1 c + d ≤ 6 → (bd_ (ru_i A c ls on) d st).1 < 1000
  | 0, _ => h
  | d + 1, hd => by
    have h1 := ru_il (A := A) (c := c) (ls := ls) (on := on) h d (by omega)
    have h2 := co_le (C := aC A) (K := A.2.1) (c := c) (on := on) (off := A.2.1.2.2.1 c + d) (by omega)
    show (ru_i A c ls on d (bd_ (ru_i A c ls on) d st)).1 < 1000
    generalize bd_ (ru_i A c ls on) d st = st' at h1
    unfold ru_i
    split
    · split
      · exact Nat.lt_of_le_of_lt (Nat.succ_le_succ h2) (by decide)
      · exact h1
    · exact h1
theorem ru_l {A : sA} {c ls : Nat} (h5 : A.2.1.2.2.1 c ≤ 5) : ∀ n, (ru_ A c ls n).1 < 1000
  | 0 => by show 0 < 1000; omega
  | n + 1 => ru_il (ru_l h5 n) _ (by omega)
noncomputable def an_run (A : sA) (c ls w : Int32) : Int32 := match ix_ A.2.1.1 c, ix_ (2 ^ A.1.1) ls, ix_ 3 w with
  | some c, some ls, some w => if w = 0 then nI (ru_ A c ls (A.2.1.2.1 c + 1)).1 - 1 else if w = 1 then ro_ (ru_ A c ls (A.2.1.2.1 c + 1)).2 else rf_ (ru_ A c ls (A.2.1.2.1 c + 1)).2
  | _, _, _ => -2
theorem ru_in (dy : List mm_Sh) (g : Nat → Nat → Int32) (r : (Nat → Nat → Int64) × Nat × (Nat → Int32)) {A : sA} (hI : CI dy (nr_ g) A) (hSI : SI A) {c ls w on : Nat} (hc : c < A.2.1.1) (hls : ls < 16) (hon : on ≤ A.2.1.2.1 c) {Q : Option Value → mm_Hp → Prop} {st0 : Nat × Nat} (h100 : st0.1 < 1000) (hnx : ∀ g2, fr_ f1_ g g2 → mm_W 12 M_Sc_run 0 0 Q 0 0 (161, [some (.ref 0), some (.int (nI c)), some (.int (nI ls)), some (.int (nI w)), some (.ref 2), some (.int (nI (bd_ (ru_i A c ls on) (6 - A.2.1.2.2.1 c) st0).1 - 1)), some (.int (ro_ (bd_ (ru_i A c ls on) (6 - A.2.1.2.2.1 c) st0).2)), some (.int (rf_ (bd_ (ru_i A c ls on) (6 - A.2.1.2.2.1 c) st0).2)), some (.int (nI on)), some (.int (nI 6)), none, none], [], (hp_SH ++ dy, g2, r))) : ∀ (m d : Nat) (g1 : Nat → Nat → Int32), A.2.1.2.2.1 c + d + m = 6 → fr_ f1_ g g1 → mm_W 12 M_Sc_run 0 0 Q 0 0 (74, [some (.ref 0), some (.int (nI c)), some (.int (nI ls)), some (.int (nI w)), some (.ref 2), some (.int (nI (bd_ (ru_i A c ls on) d st0).1 - 1)), some (.int (ro_ (bd_ (ru_i A c ls on) d st0).2)), some (.int (rf_ (bd_ (ru_i A c ls on) d st0).2)), some (.int (nI on)), some (.int (nI (A.2.1.2.2.1 c + d))), none, none], [], (hp_SH ++ dy, g1, r)) := by
  obtain ⟨hL, hK, hPl, hX, hB, hS, hIm, hFd, hW⟩ := hI
  have hR := cX_R hX
  have h4 := hL.2.1
  have h6 := hK.2.1
  have hpa : (hp_SH ++ dy)[9]? = some (.inl (0, 6)) := (hp_at dy (by decide)).trans rfl
  have hpo : ∀ b l, b < 6 → A.2.2.1.1 b = some l → l < A.1.1 := fun b l hb h => hSI.1 b l hb (Or.inl h)
  obtain ⟨k1, k2, k3, k4, k5⟩ := hK.2.2 c hc
  intro m
  induction m with
  | zero =>
    intro d g1 hd hF
    rw [show d = 6 - A.2.1.2.2.1 c by omega, show A.2.1.2.2.1 c + (6 - A.2.1.2.2.1 c) = 6 by omega]
    generalize hst : bd_ (ru_i A c ls on) (6 - A.2.1.2.2.1 c) st0 = st at hnx ⊢
    refine mm_I ok_Sc_run 39 2 78 [some (.ref 0), some (.int (nI c)), some (.int (nI ls)), some (.int (nI w)), some (.ref 2), some (.int (nI st.1 - 1)), some (.int (ro_ st.2)), some (.int (rf_ st.2)), some (.int (nI on)), some (.int (nI 6)), none, none] [.int 6, .int (nI 6)] (hp_SH ++ dy, g1, r) [] rfl trivial rfl rfl (fun _ => ?_) (fun q => False.elim (q (by decide)))
    exact hnx g1 hF
  | succ m ih =>
    intro d g1 hd hF
    have ih' := ih (d + 1)
    have hs100 := ru_il (A := A) (c := c) (ls := ls) (on := on) h100 d (by omega)
    rw [show bd_ (ru_i A c ls on) (d + 1) st0 = ru_i A c ls on d (bd_ (ru_i A c ls on) d st0) from rfl] at ih'
    generalize hst : bd_ (ru_i A c ls on) d st0 = st at ih' hs100 ⊢
    unfold ru_i at ih'
    have hP1 := hF.nr f1_nr (rfl : nr_ g = nr_ g)
    refine mm_I ok_Sc_run 39 2 78 [some (.ref 0), some (.int (nI c)), some (.int (nI ls)), some (.int (nI w)), some (.ref 2), some (.int (nI st.1 - 1)), some (.int (ro_ st.2)), some (.int (rf_ st.2)), some (.int (nI on)), some (.int (nI (A.2.1.2.2.1 c + d))), none, none] [.int 6, .int (nI (A.2.1.2.2.1 c + d))] (hp_SH ++ dy, g1, r) [] rfl trivial rfl rfl (fun q => False.elim (nI_ge (b := 6) (show A.2.1.2.2.1 c + d < 6 by omega) (by decide) q)) (fun _ => ?_)
    refine mm_B ok_Sc_run 42 7 (95, [some (.ref 0), some (.int (nI c)), some (.int (nI ls)), some (.int (nI w)), some (.ref 2), some (.int (nI st.1 - 1)), some (.int (ro_ st.2)), some (.int (rf_ st.2)), some (.int (nI on)), some (.int (nI (A.2.1.2.2.1 c + d))), none, none], [.ref 9, .int (nI (A.2.1.2.2.1 c + d)), .int (nI on), .int (nI c), .ref 1], (hp_SH ++ dy, g1, r)) [] rfl trivial ?_
    refine mm_cV (as := [.int (nI c), .int (nI on), .int (nI (A.2.1.2.2.1 c + d)), .ref 9]) (st := []) (q := 1) cw_Sp_memoryOf lk_Sc_178 in_Sp_memoryOf sl_Sp_memoryOf rfl rfl (mm_at ok_Sc_run (i := 49) rfl).1 (ct_Sp_memoryOf dy g1 (nr_ g) r hP1 hR hL (ag := A.2.1.2.2.2) (c := c) (on := on) (off := A.2.1.2.2.1 c + d) (by omega) k5 (by omega) (by omega) hpa (fun _ => rfl) (fun b hb => by rw [nr_at hP1 9 b rfl]; exact (hPl b hb).1) hpo) (by decide) ⟨by omega, by omega⟩ (Nat.le_of_ble_eq_true rfl) (mm_vs_b (b := 77) rfl (hp_len dy)) (fun v h' hqq => ?_)
    obtain ⟨rfl, g2, hqe, hF1⟩ := hqq; rw [hqe]
    have hF2 := hF.tr hF1
    have hP2 := hF2.nr f1_nr (rfl : nr_ g = nr_ g)
    refine mm_B ok_Sc_run 50 5 (107, [some (.ref 0), some (.int (nI c)), some (.int (nI ls)), some (.int (nI w)), some (.ref 2), some (.int (nI st.1 - 1)), some (.int (ro_ st.2)), some (.int (rf_ st.2)), some (.int (nI on)), some (.int (nI (A.2.1.2.2.1 c + d))), some (.int (nI (sp_enc (sp_run A.1 (sp_H (aC A) A.2.1.2.2.2 c) A.2.2.1.1 on (A.2.1.2.2.1 c + d) 6)))), none], [.int 5, .int (nI (sp_enc (sp_run A.1 (sp_H (aC A) A.2.1.2.2.2 c) A.2.2.1.1 on (A.2.1.2.2.1 c + d) 6))), .ref 1], (hp_SH ++ dy, g2, r)) [] rfl trivial ?_
    refine mm_cV (as := [.int (nI (sp_enc (sp_run A.1 (sp_H (aC A) A.2.1.2.2.2 c) A.2.2.1.1 on (A.2.1.2.2.1 c + d) 6))), .int 5]) (st := []) (q := 1) cw_Sp_owned lk_Sc_212 in_Sp_owned sl_Sp_owned rfl rfl (mm_at ok_Sc_run (i := 55) rfl).1 (ct_Sp_owned dy g2 (nr_ g) r hP2 hL (sp_run_ok _ _ _ _ _ (Nat.le_refl _)) (b := 5) (by decide) (fun l hl => (sp_run_le _ _ _ _ _ 6 l (by omega)).2)) (by decide) ⟨by omega, by omega⟩ (Nat.le_of_ble_eq_true rfl) (mm_vs_b (b := 77) rfl (hp_len dy)) (fun v h' hqq => ?_)
    obtain ⟨rfl, hqe⟩ := hqq; rw [hqe]
    refine mm_I ok_Sc_run 56 3 113 [some (.ref 0), some (.int (nI c)), some (.int (nI ls)), some (.int (nI w)), some (.ref 2), some (.int (nI st.1 - 1)), some (.int (ro_ st.2)), some (.int (rf_ st.2)), some (.int (nI on)), some (.int (nI (A.2.1.2.2.1 c + d))), some (.int (nI (sp_enc (sp_run A.1 (sp_H (aC A) A.2.1.2.2.2 c) A.2.2.1.1 on (A.2.1.2.2.1 c + d) 6)))), none] [.int (nI ls), .int ((nI (ru_h A c on (A.2.1.2.2.1 c + d))) &&& (nI ls))] (hp_SH ++ dy, g2, r) [] rfl trivial rfl rfl (fun hq => ?_) (fun hq => ?_)
    · rw [if_pos hq] at ih'
      refine mm_B ok_Sc_run 61 4 (125, [some (.ref 0), some (.int (nI c)), some (.int (nI ls)), some (.int (nI w)), some (.ref 2), some (.int (nI st.1 - 1)), some (.int (ro_ st.2)), some (.int (rf_ st.2)), some (.int (nI on)), some (.int (nI (A.2.1.2.2.1 c + d))), some (.int (nI (sp_enc (sp_run A.1 (sp_H (aC A) A.2.1.2.2.2 c) A.2.2.1.1 on (A.2.1.2.2.1 c + d) 6)))), none], [.int (nI (A.2.1.2.2.1 c + d)), .int (nI on), .int (nI c), .ref 0], (hp_SH ++ dy, g2, r)) [] rfl trivial ?_
      refine mm_cV (as := [.int (nI c), .int (nI on), .int (nI (A.2.1.2.2.1 c + d))]) (st := []) (q := 0) cw_Sc_costOf lk_Sc_215 in_Sc_costOf sl_Sc_costOf rfl rfl (mm_at ok_Sc_run (i := 65) rfl).1 (ct_Sc_costOf dy g2 (nr_ g) r hP2 hR hL hK hc hon (off := A.2.1.2.2.1 c + d) (by omega) (by omega)) (by decide) ⟨by omega, by omega⟩ (Nat.le_of_ble_eq_true rfl) (mm_vs_b (b := 77) rfl (hp_len dy)) (fun v h' hqq => ?_)
      obtain ⟨rfl, g3, hqe, hF3⟩ := hqq; rw [hqe]
      have hF4 := hF2.tr hF3
      have hco := co_le (C := aC A) (K := A.2.1) (c := c) (on := on) (off := A.2.1.2.2.1 c + d) (by omega)
      generalize hcv : co_ (aC A) A.2.1 c on (A.2.1.2.2.1 c + d) = co at ih' hco ⊢
      have hat := ro_at (on := on) (off := A.2.1.2.2.1 c + d) (by omega)
      by_cases h2 : st.1 = 0
      · rw [if_pos (Or.inl h2)] at ih'
        refine mm_I ok_Sc_run 66 3 133 [some (.ref 0), some (.int (nI c)), some (.int (nI ls)), some (.int (nI w)), some (.ref 2), some (.int (nI st.1 - 1)), some (.int (ro_ st.2)), some (.int (rf_ st.2)), some (.int (nI on)), some (.int (nI (A.2.1.2.2.1 c + d))), some (.int (nI (sp_enc (sp_run A.1 (sp_H (aC A) A.2.1.2.2.2 c) A.2.2.1.1 on (A.2.1.2.2.1 c + d) 6)))), some (.int (nI co))] [.int (-1), .int (nI st.1 - 1)] (hp_SH ++ dy, g3, r) [] rfl trivial rfl rfl (fun _ => ?_) (fun q => False.elim (q (by rw [h2]; rfl)))
        refine mm_B ok_Sc_run 73 8 (74, [some (.ref 0), some (.int (nI c)), some (.int (nI ls)), some (.int (nI w)), some (.ref 2), some (.int (nI co)), some (.int (nI on)), some (.int (nI (A.2.1.2.2.1 c + d))), some (.int (nI on)), some (.int ((nI (A.2.1.2.2.1 c + d)) + 1)), some (.int (nI (sp_enc (sp_run A.1 (sp_H (aC A) A.2.1.2.2.2 c) A.2.2.1.1 on (A.2.1.2.2.1 c + d) 6)))), some (.int (nI co))], [], (hp_SH ++ dy, g3, r)) [] rfl trivial ?_
        refine mm_fg [10, 11] ?_
        rw [nI_1]
        have h8 := ih' g3 (by omega) hF4
        simp only [] at h8
        rw [hat.1, hat.2, nI_pred] at h8
        exact h8
      · refine mm_I ok_Sc_run 66 3 133 [some (.ref 0), some (.int (nI c)), some (.int (nI ls)), some (.int (nI w)), some (.ref 2), some (.int (nI st.1 - 1)), some (.int (ro_ st.2)), some (.int (rf_ st.2)), some (.int (nI on)), some (.int (nI (A.2.1.2.2.1 c + d))), some (.int (nI (sp_enc (sp_run A.1 (sp_H (aC A) A.2.1.2.2.2 c) A.2.2.1.1 on (A.2.1.2.2.1 c + d) 6)))), some (.int (nI co))] [.int (-1), .int (nI st.1 - 1)] (hp_SH ++ dy, g3, r) [] rfl trivial rfl rfl (fun q => False.elim (m1_ne (l := st.1 - 1) (by omega) (by rw [← nI_sub (by omega)]; exact q))) (fun _ => ?_)
        refine mm_I ok_Sc_run 70 2 140 [some (.ref 0), some (.int (nI c)), some (.int (nI ls)), some (.int (nI w)), some (.ref 2), some (.int (nI st.1 - 1)), some (.int (ro_ st.2)), some (.int (rf_ st.2)), some (.int (nI on)), some (.int (nI (A.2.1.2.2.1 c + d))), some (.int (nI (sp_enc (sp_run A.1 (sp_H (aC A) A.2.1.2.2.2 c) A.2.2.1.1 on (A.2.1.2.2.1 c + d) 6)))), some (.int (nI co))] [.int (nI st.1 - 1), .int (nI co)] (hp_SH ++ dy, g3, r) [] rfl trivial rfl rfl (fun h3 => ?_) (fun h3 => ?_)
        · rw [if_neg (fun q => by
            rcases q with q | q
            · exact h2 q
            · rw [show nI st.1 - 1 = nI (st.1 - 1) from nI_sub (b := 1) (by omega)] at h3
              have := (nI_leI (by omega) (by omega)).mp h3
              omega)] at ih'
          refine mm_B ok_Sc_run 79 2 (74, [some (.ref 0), some (.int (nI c)), some (.int (nI ls)), some (.int (nI w)), some (.ref 2), some (.int (nI st.1 - 1)), some (.int (ro_ st.2)), some (.int (rf_ st.2)), some (.int (nI on)), some (.int ((nI (A.2.1.2.2.1 c + d)) + 1)), some (.int (nI (sp_enc (sp_run A.1 (sp_H (aC A) A.2.1.2.2.2 c) A.2.2.1.1 on (A.2.1.2.2.1 c + d) 6)))), some (.int (nI co))], [], (hp_SH ++ dy, g3, r)) [] rfl trivial ?_
          refine mm_fg [10, 11] ?_
          rw [nI_1]
          exact ih' g3 (by omega) hF4
        · rw [if_pos (Or.inr (by
            rw [show nI st.1 - 1 = nI (st.1 - 1) from nI_sub (b := 1) (by omega)] at h3
            have := mt (nI_leI (a := st.1 - 1) (b := co) (by omega) (by omega)).mpr h3
            omega))] at ih'
          refine mm_B ok_Sc_run 73 8 (74, [some (.ref 0), some (.int (nI c)), some (.int (nI ls)), some (.int (nI w)), some (.ref 2), some (.int (nI co)), some (.int (nI on)), some (.int (nI (A.2.1.2.2.1 c + d))), some (.int (nI on)), some (.int ((nI (A.2.1.2.2.1 c + d)) + 1)), some (.int (nI (sp_enc (sp_run A.1 (sp_H (aC A) A.2.1.2.2.2 c) A.2.2.1.1 on (A.2.1.2.2.1 c + d) 6)))), some (.int (nI co))], [], (hp_SH ++ dy, g3, r)) [] rfl trivial ?_
          refine mm_fg [10, 11] ?_
          rw [nI_1]
          have h8 := ih' g3 (by omega) hF4
          simp only [] at h8
          rw [hat.1, hat.2, nI_pred] at h8
          exact h8
    · rw [if_neg hq] at ih'
      refine mm_B ok_Sc_run 60 1 (155, [some (.ref 0), some (.int (nI c)), some (.int (nI ls)), some (.int (nI w)), some (.ref 2), some (.int (nI st.1 - 1)), some (.int (ro_ st.2)), some (.int (rf_ st.2)), some (.int (nI on)), some (.int (nI (A.2.1.2.2.1 c + d))), some (.int (nI (sp_enc (sp_run A.1 (sp_H (aC A) A.2.1.2.2.2 c) A.2.2.1.1 on (A.2.1.2.2.1 c + d) 6)))), none], [], (hp_SH ++ dy, g2, r)) [] rfl trivial ?_
      refine mm_B ok_Sc_run 79 2 (74, [some (.ref 0), some (.int (nI c)), some (.int (nI ls)), some (.int (nI w)), some (.ref 2), some (.int (nI st.1 - 1)), some (.int (ro_ st.2)), some (.int (rf_ st.2)), some (.int (nI on)), some (.int ((nI (A.2.1.2.2.1 c + d)) + 1)), some (.int (nI (sp_enc (sp_run A.1 (sp_H (aC A) A.2.1.2.2.2 c) A.2.2.1.1 on (A.2.1.2.2.1 c + d) 6)))), none], [], (hp_SH ++ dy, g2, r)) [] rfl trivial ?_
      refine mm_fg [10, 11] ?_
      rw [nI_1]
      exact ih' g2 (by omega) hF2
theorem ru_go (dy : List mm_Sh) (g : Nat → Nat → Int32) (r : (Nat → Nat → Int64) × Nat × (Nat → Int32)) {A : sA} (hI : CI dy (nr_ g) A) (hSI : SI A) {c ls w : Nat} (hc : c < A.2.1.1) (hls : ls < 16) (hw : w < 3) : ∀ (m on : Nat) (g1 : Nat → Nat → Int32), on + m = A.2.1.2.1 c + 1 → fr_ f1_ g g1 → mm_W 12 M_Sc_run 0 0 (RC dy g r A (.int (if w = 0 then nI (ru_ A c ls (A.2.1.2.1 c + 1)).1 - 1 else if w = 1 then ro_ (ru_ A c ls (A.2.1.2.1 c + 1)).2 else rf_ (ru_ A c ls (A.2.1.2.1 c + 1)).2))) 0 0 (53, [some (.ref 0), some (.int (nI c)), some (.int (nI ls)), some (.int (nI w)), some (.ref 2), some (.int (nI (ru_ A c ls on).1 - 1)), some (.int (ro_ (ru_ A c ls on).2)), some (.int (rf_ (ru_ A c ls on).2)), some (.int (nI on)), none, none, none], [], (hp_SH ++ dy, g1, r)) := by
  have hI' := hI
  obtain ⟨hL, hK, hPl, hX, hB, hS, hIm, hFd, hW⟩ := hI'
  have h6 := hK.2.1
  obtain ⟨k1, k2, k3, k4, k5⟩ := hK.2.2 c hc
  intro m
  induction m with
  | zero =>
    intro on g1 hon hF
    have e6 : g1 6 (nI c).toNatClampNeg = nI (A.2.1.2.1 c) := by rw [nI_clamp (by omega), nr_at (hF.nr f1_nr (rfl : nr_ g = nr_ g)) 6 c rfl]; exact k1
    rw [← show on = A.2.1.2.1 c + 1 by omega]
    generalize hst : ru_ A c ls on = st
    refine mm_B ok_Sc_run 28 5 (62, [some (.ref 0), some (.int (nI c)), some (.int (nI ls)), some (.int (nI w)), some (.ref 2), some (.int (nI st.1 - 1)), some (.int (ro_ st.2)), some (.int (rf_ st.2)), some (.int (nI on)), none, none, none], [.int (g1 6 ((nI c).toNatClampNeg)), .int (nI on)], (hp_SH ++ dy, g1, r)) [vp_in (nI c) 6] rfl (show vp_in (nI c) 6 from (nI_vi (by omega) (by decide))) ?_
    rw [e6]
    refine mm_I ok_Sc_run 33 0 62 [some (.ref 0), some (.int (nI c)), some (.int (nI ls)), some (.int (nI w)), some (.ref 2), some (.int (nI st.1 - 1)), some (.int (ro_ st.2)), some (.int (rf_ st.2)), some (.int (nI on)), none, none, none] [.int (nI (A.2.1.2.1 c)), .int (nI on)] (hp_SH ++ dy, g1, r) [] rfl trivial rfl rfl (fun _ => ?_) (fun q => False.elim (q (nI_lt (by omega) (by omega))))
    rcases (show w = 0 ∨ w = 1 ∨ w = 2 by omega) with hw | hw | hw
    · subst hw
      rw [if_pos rfl]
      refine mm_I ok_Sc_run 83 1 168 [some (.ref 0), some (.int (nI c)), some (.int (nI ls)), some (.int (nI 0)), some (.ref 2), some (.int (nI st.1 - 1)), some (.int (ro_ st.2)), some (.int (rf_ st.2)), some (.int (nI on)), none, none, none] [.int (nI 0)] (hp_SH ++ dy, g1, r) [] rfl trivial rfl rfl (fun q => False.elim (q rfl)) (fun _ => ?_)
      refine mm_B ok_Sc_run 85 2 (188, [some (.ref 0), some (.int (nI c)), some (.int (nI ls)), some (.int (nI 0)), some (.ref 2), some (.int (nI st.1 - 1)), some (.int (ro_ st.2)), some (.int (rf_ st.2)), some (.int (nI on)), none, none, none], [.int (nI st.1 - 1)], (hp_SH ++ dy, g1, r)) [] rfl trivial ?_
      exact mm_ri rfl (mm_at ok_Sc_run (i := 93) rfl).1 ⟨Nat.le_refl _, Nat.le_refl _⟩ (RC_q rfl hI (hF.mono cz_f1))
    · subst hw
      rw [if_neg (by decide), if_pos rfl]
      refine mm_I ok_Sc_run 83 1 168 [some (.ref 0), some (.int (nI c)), some (.int (nI ls)), some (.int (nI 1)), some (.ref 2), some (.int (nI st.1 - 1)), some (.int (ro_ st.2)), some (.int (rf_ st.2)), some (.int (nI on)), none, none, none] [.int (nI 1)] (hp_SH ++ dy, g1, r) [] rfl trivial rfl rfl (fun _ => ?_) (fun q => False.elim (absurd q (by decide)))
      refine mm_I ok_Sc_run 87 2 178 [some (.ref 0), some (.int (nI c)), some (.int (nI ls)), some (.int (nI 1)), some (.ref 2), some (.int (nI st.1 - 1)), some (.int (ro_ st.2)), some (.int (rf_ st.2)), some (.int (nI on)), none, none, none] [.int 1, .int (nI 1)] (hp_SH ++ dy, g1, r) [] rfl trivial rfl rfl (fun q => False.elim (q rfl)) (fun _ => ?_)
      refine mm_B ok_Sc_run 90 2 (188, [some (.ref 0), some (.int (nI c)), some (.int (nI ls)), some (.int (nI 1)), some (.ref 2), some (.int (nI st.1 - 1)), some (.int (ro_ st.2)), some (.int (rf_ st.2)), some (.int (nI on)), none, none, none], [.int (ro_ st.2)], (hp_SH ++ dy, g1, r)) [] rfl trivial ?_
      exact mm_ri rfl (mm_at ok_Sc_run (i := 93) rfl).1 ⟨Nat.le_refl _, Nat.le_refl _⟩ (RC_q rfl hI (hF.mono cz_f1))
    · subst hw
      rw [if_neg (by decide), if_neg (by decide)]
      refine mm_I ok_Sc_run 83 1 168 [some (.ref 0), some (.int (nI c)), some (.int (nI ls)), some (.int (nI 2)), some (.ref 2), some (.int (nI st.1 - 1)), some (.int (ro_ st.2)), some (.int (rf_ st.2)), some (.int (nI on)), none, none, none] [.int (nI 2)] (hp_SH ++ dy, g1, r) [] rfl trivial rfl rfl (fun _ => ?_) (fun q => False.elim (absurd q (by decide)))
      refine mm_I ok_Sc_run 87 2 178 [some (.ref 0), some (.int (nI c)), some (.int (nI ls)), some (.int (nI 2)), some (.ref 2), some (.int (nI st.1 - 1)), some (.int (ro_ st.2)), some (.int (rf_ st.2)), some (.int (nI on)), none, none, none] [.int 1, .int (nI 2)] (hp_SH ++ dy, g1, r) [] rfl trivial rfl rfl (fun _ => ?_) (fun q => False.elim (absurd q (by decide)))
      refine mm_B ok_Sc_run 92 1 (188, [some (.ref 0), some (.int (nI c)), some (.int (nI ls)), some (.int (nI 2)), some (.ref 2), some (.int (nI st.1 - 1)), some (.int (ro_ st.2)), some (.int (rf_ st.2)), some (.int (nI on)), none, none, none], [.int (rf_ st.2)], (hp_SH ++ dy, g1, r)) [] rfl trivial ?_
      exact mm_ri rfl (mm_at ok_Sc_run (i := 93) rfl).1 ⟨Nat.le_refl _, Nat.le_refl _⟩ (RC_q rfl hI (hF.mono cz_f1))
  | succ m ih =>
    intro on g1 hon hF
    have hP1 := hF.nr f1_nr (rfl : nr_ g = nr_ g)
    have e6 : g1 6 (nI c).toNatClampNeg = nI (A.2.1.2.1 c) := by rw [nI_clamp (by omega), nr_at hP1 6 c rfl]; exact k1
    have e7 : g1 7 (nI c).toNatClampNeg = nI (A.2.1.2.2.1 c) := by rw [nI_clamp (by omega), nr_at hP1 7 c rfl]; exact k2
    have hab := ru_l (A := A) (c := c) (ls := ls) k4 on
    have ih' := ih (on + 1)
    rw [show ru_ A c ls (on + 1) = bd_ (ru_i A c ls on) (6 - A.2.1.2.2.1 c) (ru_ A c ls on) from rfl] at ih'
    generalize hst : ru_ A c ls on = st at ih' hab ⊢
    refine mm_B ok_Sc_run 28 5 (62, [some (.ref 0), some (.int (nI c)), some (.int (nI ls)), some (.int (nI w)), some (.ref 2), some (.int (nI st.1 - 1)), some (.int (ro_ st.2)), some (.int (rf_ st.2)), some (.int (nI on)), none, none, none], [.int (g1 6 ((nI c).toNatClampNeg)), .int (nI on)], (hp_SH ++ dy, g1, r)) [vp_in (nI c) 6] rfl (show vp_in (nI c) 6 from (nI_vi (by omega) (by decide))) ?_
    rw [e6]
    refine mm_I ok_Sc_run 33 0 62 [some (.ref 0), some (.int (nI c)), some (.int (nI ls)), some (.int (nI w)), some (.ref 2), some (.int (nI st.1 - 1)), some (.int (ro_ st.2)), some (.int (rf_ st.2)), some (.int (nI on)), none, none, none] [.int (nI (A.2.1.2.1 c)), .int (nI on)] (hp_SH ++ dy, g1, r) [] rfl trivial rfl rfl (fun q => False.elim (absurd q (nI_nlt (show on ≤ A.2.1.2.1 c by omega) (by omega)))) (fun _ => ?_)
    refine mm_B ok_Sc_run 34 5 (74, [some (.ref 0), some (.int (nI c)), some (.int (nI ls)), some (.int (nI w)), some (.ref 2), some (.int (nI st.1 - 1)), some (.int (ro_ st.2)), some (.int (rf_ st.2)), some (.int (nI on)), some (.int (g1 7 ((nI c).toNatClampNeg))), none, none], [], (hp_SH ++ dy, g1, r)) [vp_in (nI c) 6] rfl (show vp_in (nI c) 6 from (nI_vi (by omega) (by decide))) ?_
    rw [e7]
    refine ru_in dy g r hI hSI hc hls (on := on) (by omega) (st0 := st) hab (fun g2 hF2 => ?_) (6 - A.2.1.2.2.1 c) 0 g1 (by omega) hF
    generalize hst2 : bd_ (ru_i A c ls on) (6 - A.2.1.2.2.1 c) st = st2 at ih' ⊢
    refine mm_B ok_Sc_run 81 2 (53, [some (.ref 0), some (.int (nI c)), some (.int (nI ls)), some (.int (nI w)), some (.ref 2), some (.int (nI st2.1 - 1)), some (.int (ro_ st2.2)), some (.int (rf_ st2.2)), some (.int ((nI on) + 1)), some (.int (nI 6)), none, none], [], (hp_SH ++ dy, g2, r)) [] rfl trivial ?_
    refine mm_fg [9] ?_
    rw [nI_1]
    exact ih' g2 (by omega) hF2
theorem cc_run (dy : List mm_Sh) (g : Nat → Nat → Int32) (r : (Nat → Nat → Int64) × Nat × (Nat → Int32)) {A : sA} (hI : CI dy (nr_ g) A) (hSI : SI A) (c ls w : Int32) : mm_Ct 12 M_Sc_run [.ref 0, .int c, .int ls, .int w] (hp_SH ++ dy, g, r) 0 0 (RC dy g r A (.int (an_run A c ls w))) := by
  have hI' := hI
  obtain ⟨hL, hK, hPl, hX, hB, hS, hIm, hFd, hW⟩ := hI'
  have hR := cX_R hX
  have h4 := hL.2.1
  have h16 := p2_16 h4
  have h6 := hK.2.1
  have e20 : g 2 0 = nI A.1.1 := by rw [← nr_eq g (k := 2) (j := 0) rfl]; exact hL.1
  have e21 : g 2 1 = nI A.2.1.1 := by rw [← nr_eq g (k := 2) (j := 1) rfl]; exact hK.1
  have hpa : (hp_SH ++ dy)[9]? = some (.inl (0, 6)) := (hp_at dy (by decide)).trans rfl
  have hpl : ∀ b, b < 6 → g 9 b = pl_c (A.2.2.1.1 b) := fun b hb => by rw [← nr_eq g (k := 9) (j := b) rfl]; exact (hPl b hb).1
  have hot : ∀ b, b < 6 → g 10 b = pl_c (A.2.2.1.2 b) := fun b hb => by rw [← nr_eq g (k := 10) (j := b) rfl]; exact (hPl b hb).2
  have hpo : ∀ b l, b < 6 → A.2.2.1.1 b = some l → l < A.1.1 := fun b l hb h => hSI.1 b l hb (Or.inl h)
  refine mm_start pl_Sc (Nat.le_of_ble_eq_true rfl) ?_
  cases hx1 : ix_ A.2.1.1 c with
  | none =>
    rw [show an_run A c ls w = (-2) by unfold an_run; rw [hx1]]
    refine mm_B ok_Sc_run 0 6 (11, [some (.ref 0), some (.int c), some (.int ls), some (.int w), some (.ref 2), none, none, none, none, none, none, none], [.int c, .ref 0], (hp_SH ++ dy, g, r)) [] rfl trivial ?_
    refine mm_cV (as := [.int c]) (st := []) (q := 0) cw_Sc_isChild lk_Sc_105 in_Sc_isChild sl_Sc_isChild rfl rfl (mm_at ok_Sc_run (i := 6) rfl).1 (ct_Sc_isChild dy g r c) (by decide) ⟨by omega, by omega⟩ (Nat.le_of_ble_eq_true rfl) (mm_vs_b (b := 77) rfl (hp_len dy)) (fun v h' hqq => ?_)
    obtain ⟨rfl, hqe⟩ := hqq; rw [hqe]
    rw [cx_ e21 c, hx1]
    refine mm_I ok_Sc_run 7 0 14 [some (.ref 0), some (.int c), some (.int ls), some (.int w), some (.ref 2), none, none, none, none, none, none, none] [.int (iz_ none)] (hp_SH ++ dy, g, r) [] rfl trivial rfl rfl (fun _ => ?_) (fun q => False.elim (q rfl))
    refine mm_B ok_Sc_run 18 1 (40, [some (.ref 0), some (.int c), some (.int ls), some (.int w), some (.ref 2), none, none, none, none, none, none, none], [.int (-2)], (hp_SH ++ dy, g, r)) [] rfl trivial ?_
    exact mm_ri rfl (mm_at ok_Sc_run (i := 19) rfl).1 ⟨Nat.le_refl _, Nat.le_refl _⟩ (RC_q rfl hI fr_.rf)
  | some i =>
    obtain ⟨hl1, rfl⟩ := ix_some (by omega) hx1
    cases hx2 : ix_ (2 ^ A.1.1) ls with
    | none =>
      rw [show an_run A (nI i) ls w = (-2) by unfold an_run; rw [hx1, hx2]]
      refine mm_B ok_Sc_run 0 6 (11, [some (.ref 0), some (.int (nI i)), some (.int ls), some (.int w), some (.ref 2), none, none, none, none, none, none, none], [.int (nI i), .ref 0], (hp_SH ++ dy, g, r)) [] rfl trivial ?_
      refine mm_cV (as := [.int (nI i)]) (st := []) (q := 0) cw_Sc_isChild lk_Sc_105 in_Sc_isChild sl_Sc_isChild rfl rfl (mm_at ok_Sc_run (i := 6) rfl).1 (ct_Sc_isChild dy g r (nI i)) (by decide) ⟨by omega, by omega⟩ (Nat.le_of_ble_eq_true rfl) (mm_vs_b (b := 77) rfl (hp_len dy)) (fun v h' hqq => ?_)
      obtain ⟨rfl, hqe⟩ := hqq; rw [hqe]
      rw [cx_ e21 (nI i), ix_at hl1 (by omega)]
      refine mm_I ok_Sc_run 7 0 14 [some (.ref 0), some (.int (nI i)), some (.int ls), some (.int w), some (.ref 2), none, none, none, none, none, none, none] [.int (iz_ (some i))] (hp_SH ++ dy, g, r) [] rfl trivial rfl rfl (fun q => False.elim (one0 q)) (fun _ => ?_)
      refine mm_B ok_Sc_run 8 3 (23, [some (.ref 0), some (.int (nI i)), some (.int ls), some (.int w), some (.ref 2), none, none, none, none, none, none, none], [.int (g 2 0), .int ls], (hp_SH ++ dy, g, r)) [] rfl trivial ?_
      rw [e20]
      refine mm_cS (as := [.int ls, .int (nI A.1.1)]) (st := []) cw_Sc_areLessons lk_Sc_79 sx_Sc_areLessons (mm_at ok_Sc_run (i := 11) rfl).1 (ct_Sc_areLessons (hp_SH ++ dy, g, r) ls (nI A.1.1)) (by decide) ⟨by omega, by omega⟩ (Nat.le_of_ble_eq_true rfl) (mm_vs_b (b := 77) rfl (hp_len dy)) (fun v h' hqq => ?_)
      obtain ⟨rfl, hqe⟩ := hqq; rw [hqe]
      rw [ar_ok (show A.1.1 ≤ 4 by omega) ls, hx2]
      refine mm_I ok_Sc_run 12 0 26 [some (.ref 0), some (.int (nI i)), some (.int ls), some (.int w), some (.ref 2), none, none, none, none, none, none, none] [.int (iz_ none)] (hp_SH ++ dy, g, r) [] rfl trivial rfl rfl (fun _ => ?_) (fun q => False.elim (q rfl))
      refine mm_B ok_Sc_run 18 1 (40, [some (.ref 0), some (.int (nI i)), some (.int ls), some (.int w), some (.ref 2), none, none, none, none, none, none, none], [.int (-2)], (hp_SH ++ dy, g, r)) [] rfl trivial ?_
      exact mm_ri rfl (mm_at ok_Sc_run (i := 19) rfl).1 ⟨Nat.le_refl _, Nat.le_refl _⟩ (RC_q rfl hI fr_.rf)
    | some k =>
      obtain ⟨hl2, rfl⟩ := ix_some (by omega) hx2
      cases hx3 : ix_ 3 w with
      | none =>
        rw [show an_run A (nI i) (nI k) w = (-2) by unfold an_run; rw [hx1, hx2, hx3]]
        refine mm_B ok_Sc_run 0 6 (11, [some (.ref 0), some (.int (nI i)), some (.int (nI k)), some (.int w), some (.ref 2), none, none, none, none, none, none, none], [.int (nI i), .ref 0], (hp_SH ++ dy, g, r)) [] rfl trivial ?_
        refine mm_cV (as := [.int (nI i)]) (st := []) (q := 0) cw_Sc_isChild lk_Sc_105 in_Sc_isChild sl_Sc_isChild rfl rfl (mm_at ok_Sc_run (i := 6) rfl).1 (ct_Sc_isChild dy g r (nI i)) (by decide) ⟨by omega, by omega⟩ (Nat.le_of_ble_eq_true rfl) (mm_vs_b (b := 77) rfl (hp_len dy)) (fun v h' hqq => ?_)
        obtain ⟨rfl, hqe⟩ := hqq; rw [hqe]
        rw [cx_ e21 (nI i), ix_at hl1 (by omega)]
        refine mm_I ok_Sc_run 7 0 14 [some (.ref 0), some (.int (nI i)), some (.int (nI k)), some (.int w), some (.ref 2), none, none, none, none, none, none, none] [.int (iz_ (some i))] (hp_SH ++ dy, g, r) [] rfl trivial rfl rfl (fun q => False.elim (one0 q)) (fun _ => ?_)
        refine mm_B ok_Sc_run 8 3 (23, [some (.ref 0), some (.int (nI i)), some (.int (nI k)), some (.int w), some (.ref 2), none, none, none, none, none, none, none], [.int (g 2 0), .int (nI k)], (hp_SH ++ dy, g, r)) [] rfl trivial ?_
        rw [e20]
        refine mm_cS (as := [.int (nI k), .int (nI A.1.1)]) (st := []) cw_Sc_areLessons lk_Sc_79 sx_Sc_areLessons (mm_at ok_Sc_run (i := 11) rfl).1 (ct_Sc_areLessons (hp_SH ++ dy, g, r) (nI k) (nI A.1.1)) (by decide) ⟨by omega, by omega⟩ (Nat.le_of_ble_eq_true rfl) (mm_vs_b (b := 77) rfl (hp_len dy)) (fun v h' hqq => ?_)
        obtain ⟨rfl, hqe⟩ := hqq; rw [hqe]
        rw [ar_ok (show A.1.1 ≤ 4 by omega) (nI k), ix_at hl2 (by omega)]
        refine mm_I ok_Sc_run 12 0 26 [some (.ref 0), some (.int (nI i)), some (.int (nI k)), some (.int w), some (.ref 2), none, none, none, none, none, none, none] [.int (iz_ (some k))] (hp_SH ++ dy, g, r) [] rfl trivial rfl rfl (fun q => False.elim (one0 q)) (fun _ => ?_)
        rcases g1_n (by decide) hx3 with hr | hr
        · refine mm_I ok_Sc_run 13 1 30 [some (.ref 0), some (.int (nI i)), some (.int (nI k)), some (.int w), some (.ref 2), none, none, none, none, none, none, none] [.int w] (hp_SH ++ dy, g, r) [] rfl trivial rfl rfl (fun _ => ?_) (fun q => False.elim (q hr))
          refine mm_B ok_Sc_run 18 1 (40, [some (.ref 0), some (.int (nI i)), some (.int (nI k)), some (.int w), some (.ref 2), none, none, none, none, none, none, none], [.int (-2)], (hp_SH ++ dy, g, r)) [] rfl trivial ?_
          exact mm_ri rfl (mm_at ok_Sc_run (i := 19) rfl).1 ⟨Nat.le_refl _, Nat.le_refl _⟩ (RC_q rfl hI fr_.rf)
        · refine mm_I ok_Sc_run 13 1 30 [some (.ref 0), some (.int (nI i)), some (.int (nI k)), some (.int w), some (.ref 2), none, none, none, none, none, none, none] [.int w] (hp_SH ++ dy, g, r) [] rfl trivial rfl rfl (fun q => False.elim (absurd (Int32.lt_trans hr q) (by decide))) (fun _ => ?_)
          refine mm_I ok_Sc_run 15 2 35 [some (.ref 0), some (.int (nI i)), some (.int (nI k)), some (.int w), some (.ref 2), none, none, none, none, none, none, none] [.int 2, .int w] (hp_SH ++ dy, g, r) [] rfl trivial rfl rfl (fun q => False.elim (absurd hr (Int32.not_lt.mpr q))) (fun _ => ?_)
          refine mm_B ok_Sc_run 18 1 (40, [some (.ref 0), some (.int (nI i)), some (.int (nI k)), some (.int w), some (.ref 2), none, none, none, none, none, none, none], [.int (-2)], (hp_SH ++ dy, g, r)) [] rfl trivial ?_
          exact mm_ri rfl (mm_at ok_Sc_run (i := 19) rfl).1 ⟨Nat.le_refl _, Nat.le_refl _⟩ (RC_q rfl hI fr_.rf)
      | some j =>
        obtain ⟨hl3, rfl⟩ := ix_some (by omega) hx3
        rw [show an_run A (nI i) (nI k) (nI j) = (if j = 0 then nI (ru_ A i k (A.2.1.2.1 i + 1)).1 - 1 else if j = 1 then ro_ (ru_ A i k (A.2.1.2.1 i + 1)).2 else rf_ (ru_ A i k (A.2.1.2.1 i + 1)).2) from by unfold an_run; rw [hx1, hx2, hx3]]
        refine mm_B ok_Sc_run 0 6 (11, [some (.ref 0), some (.int (nI i)), some (.int (nI k)), some (.int (nI j)), some (.ref 2), none, none, none, none, none, none, none], [.int (nI i), .ref 0], (hp_SH ++ dy, g, r)) [] rfl trivial ?_
        refine mm_cV (as := [.int (nI i)]) (st := []) (q := 0) cw_Sc_isChild lk_Sc_105 in_Sc_isChild sl_Sc_isChild rfl rfl (mm_at ok_Sc_run (i := 6) rfl).1 (ct_Sc_isChild dy g r (nI i)) (by decide) ⟨by omega, by omega⟩ (Nat.le_of_ble_eq_true rfl) (mm_vs_b (b := 77) rfl (hp_len dy)) (fun v h' hqq => ?_)
        obtain ⟨rfl, hqe⟩ := hqq; rw [hqe]
        rw [cx_ e21 (nI i), ix_at hl1 (by omega)]
        refine mm_I ok_Sc_run 7 0 14 [some (.ref 0), some (.int (nI i)), some (.int (nI k)), some (.int (nI j)), some (.ref 2), none, none, none, none, none, none, none] [.int (iz_ (some i))] (hp_SH ++ dy, g, r) [] rfl trivial rfl rfl (fun q => False.elim (one0 q)) (fun _ => ?_)
        refine mm_B ok_Sc_run 8 3 (23, [some (.ref 0), some (.int (nI i)), some (.int (nI k)), some (.int (nI j)), some (.ref 2), none, none, none, none, none, none, none], [.int (g 2 0), .int (nI k)], (hp_SH ++ dy, g, r)) [] rfl trivial ?_
        rw [e20]
        refine mm_cS (as := [.int (nI k), .int (nI A.1.1)]) (st := []) cw_Sc_areLessons lk_Sc_79 sx_Sc_areLessons (mm_at ok_Sc_run (i := 11) rfl).1 (ct_Sc_areLessons (hp_SH ++ dy, g, r) (nI k) (nI A.1.1)) (by decide) ⟨by omega, by omega⟩ (Nat.le_of_ble_eq_true rfl) (mm_vs_b (b := 77) rfl (hp_len dy)) (fun v h' hqq => ?_)
        obtain ⟨rfl, hqe⟩ := hqq; rw [hqe]
        rw [ar_ok (show A.1.1 ≤ 4 by omega) (nI k), ix_at hl2 (by omega)]
        refine mm_I ok_Sc_run 12 0 26 [some (.ref 0), some (.int (nI i)), some (.int (nI k)), some (.int (nI j)), some (.ref 2), none, none, none, none, none, none, none] [.int (iz_ (some k))] (hp_SH ++ dy, g, r) [] rfl trivial rfl rfl (fun q => False.elim (one0 q)) (fun _ => ?_)
        refine mm_I ok_Sc_run 13 1 30 [some (.ref 0), some (.int (nI i)), some (.int (nI k)), some (.int (nI j)), some (.ref 2), none, none, none, none, none, none, none] [.int (nI j)] (hp_SH ++ dy, g, r) [] rfl trivial rfl rfl (fun q => False.elim (nI_pos (n := j) (by omega) q)) (fun _ => ?_)
        refine mm_I ok_Sc_run 15 2 35 [some (.ref 0), some (.int (nI i)), some (.int (nI k)), some (.int (nI j)), some (.ref 2), none, none, none, none, none, none, none] [.int 2, .int (nI j)] (hp_SH ++ dy, g, r) [] rfl trivial rfl rfl (fun _ => ?_) (fun q => False.elim (q (nI_le (b := 2) (by omega) (by decide))))
        refine mm_B ok_Sc_run 20 8 (53, [some (.ref 0), some (.int (nI i)), some (.int (nI k)), some (.int (nI j)), some (.ref 2), some (.int (-1)), some (.int (-1)), some (.int (-1)), some (.int 0), none, none, none], [], (hp_SH ++ dy, g, r)) [] rfl trivial ?_
        exact ((ru_go dy g r hI hSI hl1 (by omega) hl3 (A.2.1.2.1 i + 1) 0 g (by omega) fr_.rf))

