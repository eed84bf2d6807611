/-! ===== the model's tokens: byteAt, next ===== -/
theorem in_ok (x y z : Int32) : f_Mo_in x.toInt64 y.toInt64 z.toInt64 = if y ≤ x ∧ x ≤ z then 1 else 0 := by
  have e : ∀ a b : Int32, a.toInt64 ≤ b.toInt64 ↔ a ≤ b := fun a b => by rw [Int64.le_iff_toInt_le, Int32.le_iff_toInt_le, Int32.toInt_toInt64, Int32.toInt_toInt64]
  unfold f_Mo_in
  by_cases h1 : y ≤ x
  · rw [if_neg (fun h => absurd ((lg_cmp_ge _ _).mpr ((e y x).mpr h1)) (Int32.not_le.mpr h))]
    by_cases h2 : x ≤ z
    · rw [if_neg (fun h => absurd ((lg_cmp_le _ _).mpr ((e x z).mpr h2)) (Int32.not_le.mpr h)), if_pos ⟨h1, h2⟩]
    · rw [if_pos (Int32.not_le.mp (fun h => h2 ((e x z).mp ((lg_cmp_le _ _).mp h)))), if_neg (fun h => h2 h.2)]
  · rw [if_pos (Int32.not_le.mp (fun h => h1 ((e y x).mp ((lg_cmp_ge _ _).mp h)))), if_neg (fun h => h1 h.1)]
theorem in_lt (x : Int32) : f_Mo_in x.toInt64 97 122 = f_Re_isLetter x := by
  have h := in_ok x 97 122
  have e1 : (97 : Int32).toInt64 = 97 := by decide
  have e2 : (122 : Int32).toInt64 = 122 := by decide
  rw [e1, e2] at h
  rw [h]
  unfold f_Re_isLetter
  by_cases h1 : x < 97
  · rw [if_pos h1, if_neg (fun h => absurd h1 (Int32.not_lt.mpr h.1))]
  · rw [if_neg h1]
    by_cases h2 : 122 < x
    · rw [if_pos h2, if_neg (fun h => absurd h2 (Int32.not_lt.mpr h.2))]
    · rw [if_neg h2, if_pos ⟨Int32.not_lt.mp h1, Int32.not_lt.mp h2⟩]
theorem in_dg (x : Int32) : f_Mo_in x.toInt64 48 57 = f_Re_isDigit x := by
  have h := in_ok x 48 57
  have e1 : (48 : Int32).toInt64 = 48 := by decide
  have e2 : (57 : Int32).toInt64 = 57 := by decide
  rw [e1, e2] at h
  rw [h]
  unfold f_Re_isDigit
  by_cases h1 : x < 48
  · rw [if_pos h1, if_neg (fun h => absurd h1 (Int32.not_lt.mpr h.1))]
  · rw [if_neg h1]
    by_cases h2 : 57 < x
    · rw [if_pos h2, if_neg (fun h => absurd h2 (Int32.not_lt.mpr h.2))]
    · rw [if_neg h2, if_pos ⟨Int32.not_lt.mp h1, Int32.not_lt.mp h2⟩]
/-- text t of the model: n bytes B; what the names say -/
def mx_ (g : Nat → Nat → Int32) (t n : Nat) (B : Nat → Int32) (sc : Nat → Int32) : Prop := g 52 22 = nI (160 * t) ∧ g 52 23 = nI n ∧ t < 6 ∧ n ≤ 160 ∧ (∀ i, i < n → g 53 (160 * t + i) = B i ∧ 0 ≤ B i) ∧ (g 52 16 = sc 0 ∧ g 52 17 = sc 1 ∧ g 52 18 = sc 2 ∧ g 52 19 = sc 3 ∧ g 52 20 = sc 4 ∧ g 52 21 = sc 5)
/-- the places that reading changes -/
def mf_ (k j : Nat) : Bool := k == 52 && (j == 24 || j == 25 || j == 26 || j == 28 || j == 29 || j == 30)
def mg_ (k j : Nat) : Bool := k == 52 && (j == 24 || j == 25 || j == 26)
theorem mf_mg : ∀ k j, mf_ k j = false → mg_ k j = false := by
  intro k j h
  unfold mf_ at h
  unfold mg_
  cases h0 : k == 52 with
  | true =>
    rw [h0] at h
    cases h1 : j == 24 <;> cases h2 : j == 25 <;> cases h3 : j == 26 <;> simp [h1, h2, h3] at h ⊢
  | false => rfl
theorem mf_nr : ∀ k j, nr_s k j = false → mf_ k j = false := by
  intro k j h
  unfold mf_
  cases h13 : k == 52 with
  | true =>
    rw [show k = 52 by simpa using h13] at h
    have h2 : ((Nat.ble 16 j && Nat.ble j 30) || j == 39 || j == 0) = false := h
    cases hj : (j == 24 || j == 25 || j == 26 || j == 28 || j == 29 || j == 30) with
    | true =>
      simp at hj
      rcases hj with ((((rfl | rfl) | rfl) | rfl) | rfl) | rfl <;> cases h2
    | false => rfl
  | false => rfl
theorem mx_fr {g g' : Nat → Nat → Int32} {t n : Nat} {B sc : Nat → Int32} (h : mx_ g t n B sc) (hF : fr_ mf_ g g') : mx_ g' t n B sc := by
  obtain ⟨h1, h2, h3, h4, h5, h6, h7, h8, h9, h10, h11⟩ := h
  exact ⟨by rw [hF 52 22 rfl, h1], by rw [hF 52 23 rfl, h2], h3, h4, fun i hi => by rw [hF 53 _ rfl]; exact h5 i hi, by rw [hF 52 16 rfl, h6], by rw [hF 52 17 rfl, h7], by rw [hF 52 18 rfl, h8], by rw [hF 52 19 rfl, h9], by rw [hF 52 20 rfl, h10], by rw [hF 52 21 rfl, h11]⟩
def by_ (B : Nat → Int32) (n i : Nat) : Int32 := if i < n then B i else -1
theorem ct_Mo_byteAt (dy : List mm_Sh) (g : Nat → Nat → Int32) (r : (Nat → Nat → Int64) × Nat × (Nat → Int32)) {t n : Nat} {B sc : Nat → Int32} (hx : mx_ g t n B sc) {i : Nat} (hi : i < 1000) : mm_Ct 1 M_Mo_byteAt [.ref 52, .int (nI i)] (hp_SH ++ dy, g, r) 0 0 (fun v h' => v = some (.int (by_ B n i)) ∧ h' = (hp_SH ++ dy, g, r)) := by
  obtain ⟨h22, h23, ht, hn, hB, -⟩ := hx
  refine mm_start pl_Mo (Nat.le_of_ble_eq_true rfl) ?_
  refine mm_B ok_Mo_byteAt 0 3 (5, [some (.ref 52), some (.int (nI i))], [.int (g 52 23), .int (nI i)], (hp_SH ++ dy, g, r)) [] rfl trivial ?_
  rw [h23]
  by_cases h : i < n
  · refine mm_I ok_Mo_byteAt 3 0 5 [some (.ref 52), some (.int (nI i))] [.int (nI n), .int (nI i)] (hp_SH ++ dy, g, r) [] rfl trivial rfl rfl (fun q => False.elim (nI_ge h (by omega) q)) (fun _ => ?_)
    refine mm_B ok_Mo_byteAt 4 8 (23, [some (.ref 52), some (.int (nI i))], [.int (g 53 (((g 52 22) + (nI i)).toNatClampNeg))], (hp_SH ++ dy, g, r)) [vp_in ((g 52 22) + (nI i)) 960] rfl (show vp_in ((g 52 22) + (nI i)) 960 from (by rw [h22, nI_add]; exact nI_vi (by omega) (by decide))) ?_
    rw [h22, nI_add, nI_clamp (show 160 * t + i < 2 ^ 31 by omega)]
    exact mm_ri rfl (mm_at ok_Mo_byteAt (i := 13) rfl).1 ⟨Nat.le_refl _, Nat.le_refl _⟩ (⟨by unfold by_; rw [if_pos h, (hB i h).1], rfl⟩)
  · refine mm_I ok_Mo_byteAt 3 0 5 [some (.ref 52), some (.int (nI i))] [.int (nI n), .int (nI i)] (hp_SH ++ dy, g, r) [] rfl trivial rfl rfl (fun _ => ?_) (fun q => False.elim (q (nI_le (by omega) (by omega))))
    refine mm_B ok_Mo_byteAt 12 1 (23, [some (.ref 52), some (.int (nI i))], [.int (-1)], (hp_SH ++ dy, g, r)) [] rfl trivial ?_
    exact mm_ri rfl (mm_at ok_Mo_byteAt (i := 13) rfl).1 ⟨Nat.le_refl _, Nat.le_refl _⟩ (⟨by unfold by_; rw [if_neg h], rfl⟩)
/-- the model's place behind a token, and the token's sort -/
def mh0 (B : Nat → Int32) (n s : Nat) : Nat := if n ≤ s then s else if dg_ B s = true then sk_ (dg_ B) n s else if lt_ B s = true then sk_ (lt_ B) n s else if sg_ (B s) = -23 then s else s + 1
def mk0 (B : Nat → Int32) (n s : Nat) : Int32 := if n ≤ s then 0 else if dg_ B s = true then (if 4 < sk_ (dg_ B) n s - s then 4 else 2) else if lt_ B s = true then 1 else if sg_ (B s) = -23 then 4 else 3
def ml_ (B : Nat → Int32) (n : Nat) (g : Nat → Nat → Int32) (r : (Nat → Nat → Int64) × Nat × (Nat → Int32)) (s : Nat) : Prop := g 52 24 = nI (mh0 B n s) ∧ g 52 25 = mk0 B n s ∧ g 52 26 = nI s ∧ (mk0 B n s = 2 → (r.1 52 27).toInt32 = tk0 B n s) ∧ (mk0 B n s = 3 → r.1 52 27 = (B s).toInt64)
theorem mh_nx {B : Nat → Int32} {n s : Nat} (h : ¬ tk0 B n s = -23) : mh0 B n s = nx0 B n s := by
  unfold tk0 at h
  unfold mh0 nx0
  split
  · rfl
  · rename_i h1
    rw [if_neg h1] at h
    split
    · rfl
    · rename_i h2
      rw [if_neg h2] at h
      split
      · rfl
      · rename_i h3
        rw [if_neg h3] at h
        rw [if_neg h]
theorem dg_lt {B : Nat → Int32} {s : Nat} (h : dg_ B s = true) : lt_ B s = false := by
  obtain ⟨d, h1, h2⟩ := dg_nI (of_decide_eq_true h)
  unfold lt_
  rw [h2]
  have h3 : ∀ d, d ≤ 9 → f_Re_isLetter (nI (48 + d)) = 0 := by decide
  rw [h3 d h1]
  rfl
theorem by_dg {B : Nat → Int32} {n p : Nat} : f_Re_isDigit (by_ B n p) = if p < n ∧ dg_ B p = true then 1 else 0 := by
  unfold by_
  by_cases h : p < n
  · rw [if_pos h]
    by_cases h2 : dg_ B p = true
    · rw [if_pos ⟨h, h2⟩]; exact of_decide_eq_true h2
    · rw [if_neg (fun q => h2 q.2)]; exact (zo_Re_isDigit _).resolve_right (fun e => h2 (decide_eq_true e))
  · rw [if_neg h, if_neg (fun q => h q.1)]; rfl
theorem by_lt {B : Nat → Int32} {n p : Nat} : f_Re_isLetter (by_ B n p) = if p < n ∧ lt_ B p = true then 1 else 0 := by
  unfold by_
  by_cases h : p < n
  · rw [if_pos h]
    by_cases h2 : lt_ B p = true
    · rw [if_pos ⟨h, h2⟩]; exact of_decide_eq_true h2
    · rw [if_neg (fun q => h2 q.2)]; exact (zo_Re_isLetter _).resolve_right (fun e => h2 (decide_eq_true e))
  · rw [if_neg h, if_neg (fun q => h q.1)]; rfl
theorem tw_st (W : Int64) (x : Int32) : (10 * W + x.toInt64 - 48).toInt32 = W.toInt32 * 10 + x - 48 := by
  rw [Int64.toInt32_sub, Int64.toInt32_add, Int64.toInt32_mul, Int32.toInt32_toInt64, Int32.mul_comm]
  rfl

theorem nx_wd (dy : List mm_Sh) (g : Nat → Nat → Int32) (r : (Nat → Nat → Int64) × Nat × (Nat → Int32)) {t n : Nat} {B sc : Nat → Int32} (hx : mx_ g t n B sc) {s : Nat} (hs : s < n) (hd : ¬ dg_ B s = true) (hl : lt_ B s = true) (x : Int32) : ∀ (m p : Nat) (g1 : Nat → Nat → Int32), n - p ≤ m → s ≤ p → p ≤ n → fr_ mg_ g g1 → g1 52 25 = 1 → g1 52 26 = nI s → g1 52 24 = nI p → sk_ (lt_ B) n p = sk_ (lt_ B) n s → mm_W 3 M_Mo_next 0 0 (fun v h' => v = none ∧ ∃ g' r', h' = (hp_SH ++ dy, g', r') ∧ r'.2 = r.2 ∧ fr_ mg_ g g' ∧ ml_ B n g' r' s) 0 0 (100, [some (.ref 52), some (.int x), none], [], (hp_SH ++ dy, g1, r)) := by
  have hn := hx.2.2.2.1
  intro m
  induction m with
  | zero =>
    intro p g1 hm hsp hp hF h25 h26 h24 hsk
    have hx1 := mx_fr hx (hF.mono mf_mg)
    have e9 : sk_ (lt_ B) n s = p := by rw [← hsk]; exact sk_ge (by omega)
    have hin := (in_lt (by_ B n p)).trans by_lt
    rw [if_neg (fun h => absurd h.1 (by omega))] at hin
    refine mm_B ok_Mo_next 50 3 (105, [some (.ref 52), some (.int x), none], [.int (g1 52 24), .ref 52], (hp_SH ++ dy, g1, r)) [] rfl trivial ?_
    rw [h24]
    refine mm_cV (as := [.int (nI p)]) (st := []) (q := 52) cw_Mo_byteAt lk_Mo_147 in_Mo_byteAt sl_Mo_byteAt rfl rfl (mm_at ok_Mo_next (i := 53) rfl).1 (ct_Mo_byteAt dy g1 r hx1 (i := p) (by omega)) (by decide) ⟨by omega, by omega⟩ (Nat.le_of_ble_eq_true rfl) (mm_vs_b (b := 77) rfl (hp_len dy)) (fun v h' hqq => ?_)
    obtain ⟨rfl, hqe⟩ := hqq; rw [hqe]
    refine mm_B ok_Mo_next 54 3 (115, [some (.ref 52), some (.int x), none], [.long 122, .long 97, .long ((by_ B n p)).toInt64], (hp_SH ++ dy, g1, r)) [] rfl trivial ?_
    refine mm_cS (as := [.long ((by_ B n p)).toInt64, .long 97, .long 122]) (st := []) cw_Mo_in lk_Mo_100 sx_Mo_in (mm_at ok_Mo_next (i := 57) rfl).1 (ct_Mo_in (hp_SH ++ dy, g1, r) (by_ B n p).toInt64 97 122) (by decide) ⟨by omega, by omega⟩ (Nat.le_of_ble_eq_true rfl) (mm_vs_b (b := 77) rfl (hp_len dy)) (fun v h' hqq => ?_)
    obtain ⟨rfl, hqe⟩ := hqq; rw [hqe]
    rw [hin]
    refine mm_I ok_Mo_next 58 0 118 [some (.ref 52), some (.int x), none] [.int 0] (hp_SH ++ dy, g1, r) [] rfl trivial rfl rfl (fun _ => ?_) (fun q => False.elim (q rfl))
    have hk : mk0 B n s = 1 := by unfold mk0; rw [if_neg (by omega), if_neg hd, if_pos hl]
    exact mm_r0 rfl (mm_at ok_Mo_next (i := 163) rfl).1 ⟨Nat.le_refl _, Nat.le_refl _⟩ (⟨rfl, g1, r, rfl, rfl, hF, by unfold mh0; rw [if_neg (by omega), if_neg hd, if_pos hl, e9]; exact h24, by rw [hk]; exact h25, h26, fun h => absurd (hk.symm.trans h) (by decide), fun h => absurd (hk.symm.trans h) (by decide)⟩)
  | succ m ih =>
    intro p g1 hm hsp hp hF h25 h26 h24 hsk
    have hx1 := mx_fr hx (hF.mono mf_mg)
    have hin := (in_lt (by_ B n p)).trans by_lt
    refine mm_B ok_Mo_next 50 3 (105, [some (.ref 52), some (.int x), none], [.int (g1 52 24), .ref 52], (hp_SH ++ dy, g1, r)) [] rfl trivial ?_
    rw [h24]
    refine mm_cV (as := [.int (nI p)]) (st := []) (q := 52) cw_Mo_byteAt lk_Mo_147 in_Mo_byteAt sl_Mo_byteAt rfl rfl (mm_at ok_Mo_next (i := 53) rfl).1 (ct_Mo_byteAt dy g1 r hx1 (i := p) (by omega)) (by decide) ⟨by omega, by omega⟩ (Nat.le_of_ble_eq_true rfl) (mm_vs_b (b := 77) rfl (hp_len dy)) (fun v h' hqq => ?_)
    obtain ⟨rfl, hqe⟩ := hqq; rw [hqe]
    refine mm_B ok_Mo_next 54 3 (115, [some (.ref 52), some (.int x), none], [.long 122, .long 97, .long ((by_ B n p)).toInt64], (hp_SH ++ dy, g1, r)) [] rfl trivial ?_
    refine mm_cS (as := [.long ((by_ B n p)).toInt64, .long 97, .long 122]) (st := []) cw_Mo_in lk_Mo_100 sx_Mo_in (mm_at ok_Mo_next (i := 57) rfl).1 (ct_Mo_in (hp_SH ++ dy, g1, r) (by_ B n p).toInt64 97 122) (by decide) ⟨by omega, by omega⟩ (Nat.le_of_ble_eq_true rfl) (mm_vs_b (b := 77) rfl (hp_len dy)) (fun v h' hqq => ?_)
    obtain ⟨rfl, hqe⟩ := hqq; rw [hqe]
    by_cases hc : p < n ∧ lt_ B p = true
    · rw [if_pos hc] at hin
      rw [hin]
      refine mm_I ok_Mo_next 58 0 118 [some (.ref 52), some (.int x), none] [.int 1] (hp_SH ++ dy, g1, r) [] rfl trivial rfl rfl (fun q => False.elim (absurd q (by decide))) (fun _ => ?_)
      refine mm_B ok_Mo_next 59 7 (100, [some (.ref 52), some (.int x), none], [], (hp_SH ++ dy, mm_up g1 52 24 ((g1 52 24) + 1), r)) [] rfl trivial ?_
      rw [h24]
      rw [nI_1]
      exact ih (p + 1) (mm_up g1 52 24 (nI (p + 1))) (by omega) (by omega) (by omega) (hF.up _ rfl) h25 h26 rfl (by have h9 := sk_T (f := lt_ B) (n := n) (p := p) hc.2 hc.1; rw [← h9]; exact hsk)
    · rw [if_neg hc] at hin
      have e9 : sk_ (lt_ B) n s = p := by
        rw [← hsk]
        by_cases hpn : p < n
        · exact sk_F (by cases h : lt_ B p with
            | true => exact absurd ⟨hpn, h⟩ hc
            | false => rfl)
        · exact sk_ge (by omega)
      rw [hin]
      refine mm_I ok_Mo_next 58 0 118 [some (.ref 52), some (.int x), none] [.int 0] (hp_SH ++ dy, g1, r) [] rfl trivial rfl rfl (fun _ => ?_) (fun q => False.elim (q rfl))
      have hk : mk0 B n s = 1 := by unfold mk0; rw [if_neg (by omega), if_neg hd, if_pos hl]
      exact mm_r0 rfl (mm_at ok_Mo_next (i := 163) rfl).1 ⟨Nat.le_refl _, Nat.le_refl _⟩ (⟨rfl, g1, r, rfl, rfl, hF, by unfold mh0; rw [if_neg (by omega), if_neg hd, if_pos hl, e9]; exact h24, by rw [hk]; exact h25, h26, fun h => absurd (hk.symm.trans h) (by decide), fun h => absurd (hk.symm.trans h) (by decide)⟩)
theorem nx_nu (dy : List mm_Sh) (g : Nat → Nat → Int32) (r : (Nat → Nat → Int64) × Nat × (Nat → Int32)) {t n : Nat} {B sc : Nat → Int32} (hx : mx_ g t n B sc) {s : Nat} (hs : s < n) (hd : dg_ B s = true) (x : Int32) : ∀ (m k : Nat) (g1 : Nat → Nat → Int32) (r1 : (Nat → Nat → Int64) × Nat × (Nat → Int32)), n - (s + k) ≤ m → s + k ≤ n → r1.2 = r.2 → fr_ mg_ g g1 → g1 52 26 = nI s → g1 52 24 = nI (s + k) → (r1.1 52 27).toInt32 = nv_ B s (min k 4) → sk_ (dg_ B) n (s + k) = sk_ (dg_ B) n s → mm_W 3 M_Mo_next 0 0 (fun v h' => v = none ∧ ∃ g' r', h' = (hp_SH ++ dy, g', r') ∧ r'.2 = r.2 ∧ fr_ mg_ g g' ∧ ml_ B n g' r' s) 0 0 (160, [some (.ref 52), some (.int x), some (.int (nI k))], [], (hp_SH ++ dy, g1, r1)) := by
  have hn := hx.2.2.2.1
  have hend : ∀ (k : Nat) (g1 : Nat → Nat → Int32) (r1 : (Nat → Nat → Int64) × Nat × (Nat → Int32)), s + k ≤ n → r1.2 = r.2 → fr_ mg_ g g1 → g1 52 26 = nI s → g1 52 24 = nI (s + k) → (r1.1 52 27).toInt32 = nv_ B s (min k 4) → sk_ (dg_ B) n s = s + k → mm_W 3 M_Mo_next 0 0 (fun v h' => v = none ∧ ∃ g' r', h' = (hp_SH ++ dy, g', r') ∧ r'.2 = r.2 ∧ fr_ mg_ g g' ∧ ml_ B n g' r' s) 0 0 (235, [some (.ref 52), some (.int x), some (.int (nI k))], [], (hp_SH ++ dy, g1, r1)) := by
    intro k g1 r1 hp hr hF h26 h24 hW e9
    have e8 : sk_ (dg_ B) n s - s = k := by omega
    refine mm_I ok_Mo_next 117 3 238 [some (.ref 52), some (.int x), some (.int (nI k))] [.int 4, .int (nI k), .ref 52] (hp_SH ++ dy, g1, r1) [] rfl trivial rfl rfl (fun q => ?_) (fun q => ?_)
    · have q2 : ¬ 4 < k := fun e => absurd q (Int32.not_le.mpr (nI_lt (a := 4) e (by omega)))
      have hk : mk0 B n s = 2 := by unfold mk0; rw [if_neg (by omega), if_pos hd, e8, if_neg q2]
      have ht : tk0 B n s = nv_ B s k := by unfold tk0; rw [if_neg (by omega), if_pos hd, e8, if_neg q2]
      refine mm_B ok_Mo_next 123 3 (321, [some (.ref 52), some (.int x), some (.int (nI k))], [], (hp_SH ++ dy, mm_up g1 52 25 2, r1)) [] rfl trivial ?_
      exact mm_r0 rfl (mm_at ok_Mo_next (i := 163) rfl).1 ⟨Nat.le_refl _, Nat.le_refl _⟩ (⟨rfl, _, r1, rfl, hr, hF.up _ rfl, by unfold mh0; rw [if_neg (by omega), if_pos hd, e9]; exact h24, hk.symm, h26, fun _ => by rw [ht]; rw [show min k 4 = k by omega] at hW; exact hW, fun h => absurd (hk.symm.trans h) (by decide)⟩)
    · have q2 : 4 < k := Nat.not_le.mp (fun e => q (nI_le (b := 4) e (by decide)))
      have hk : mk0 B n s = 4 := by unfold mk0; rw [if_neg (by omega), if_pos hd, e8, if_pos q2]
      refine mm_B ok_Mo_next 121 2 (246, [some (.ref 52), some (.int x), some (.int (nI k))], [.int 4, .ref 52], (hp_SH ++ dy, g1, r1)) [] rfl trivial ?_
      refine mm_B ok_Mo_next 124 2 (321, [some (.ref 52), some (.int x), some (.int (nI k))], [], (hp_SH ++ dy, mm_up g1 52 25 4, r1)) [] rfl trivial ?_
      exact mm_r0 rfl (mm_at ok_Mo_next (i := 163) rfl).1 ⟨Nat.le_refl _, Nat.le_refl _⟩ (⟨rfl, _, r1, rfl, hr, hF.up _ rfl, by unfold mh0; rw [if_neg (by omega), if_pos hd, e9]; exact h24, hk.symm, h26, fun h => absurd (hk.symm.trans h) (by decide), fun h => absurd (hk.symm.trans h) (by decide)⟩)
  intro m
  induction m with
  | zero =>
    intro k g1 r1 hm hp hr hF h26 h24 hW hsk
    have hx1 := mx_fr hx (hF.mono mf_mg)
    have e9 : sk_ (dg_ B) n s = s + k := by rw [← hsk]; exact sk_ge (by omega)
    have hin := (in_dg (by_ B n (s + k))).trans by_dg
    rw [if_neg (fun h => absurd h.1 (by omega))] at hin
    refine mm_B ok_Mo_next 80 3 (165, [some (.ref 52), some (.int x), some (.int (nI k))], [.int (g1 52 24), .ref 52], (hp_SH ++ dy, g1, r1)) [] rfl trivial ?_
    rw [h24]
    refine mm_cV (as := [.int (nI (s + k))]) (st := []) (q := 52) cw_Mo_byteAt lk_Mo_147 in_Mo_byteAt sl_Mo_byteAt rfl rfl (mm_at ok_Mo_next (i := 83) rfl).1 (ct_Mo_byteAt dy g1 r1 hx1 (i := s + k) (by omega)) (by decide) ⟨by omega, by omega⟩ (Nat.le_of_ble_eq_true rfl) (mm_vs_b (b := 77) rfl (hp_len dy)) (fun v h' hqq => ?_)
    obtain ⟨rfl, hqe⟩ := hqq; rw [hqe]
    refine mm_B ok_Mo_next 84 3 (175, [some (.ref 52), some (.int x), some (.int (nI k))], [.long 57, .long 48, .long ((by_ B n (s + k))).toInt64], (hp_SH ++ dy, g1, r1)) [] rfl trivial ?_
    refine mm_cS (as := [.long ((by_ B n (s + k))).toInt64, .long 48, .long 57]) (st := []) cw_Mo_in lk_Mo_100 sx_Mo_in (mm_at ok_Mo_next (i := 87) rfl).1 (ct_Mo_in (hp_SH ++ dy, g1, r1) (by_ B n (s + k)).toInt64 48 57) (by decide) ⟨by omega, by omega⟩ (Nat.le_of_ble_eq_true rfl) (mm_vs_b (b := 77) rfl (hp_len dy)) (fun v h' hqq => ?_)
    obtain ⟨rfl, hqe⟩ := hqq; rw [hqe]
    rw [hin]
    refine mm_I ok_Mo_next 88 0 178 [some (.ref 52), some (.int x), some (.int (nI k))] [.int 0] (hp_SH ++ dy, g1, r1) [] rfl trivial rfl rfl (fun _ => ?_) (fun q => False.elim (q rfl))
    exact hend k g1 r1 hp hr hF h26 h24 hW e9
  | succ m ih =>
    intro k g1 r1 hm hp hr hF h26 h24 hW hsk
    have hx1 := mx_fr hx (hF.mono mf_mg)
    have hin := (in_dg (by_ B n (s + k))).trans by_dg
    refine mm_B ok_Mo_next 80 3 (165, [some (.ref 52), some (.int x), some (.int (nI k))], [.int (g1 52 24), .ref 52], (hp_SH ++ dy, g1, r1)) [] rfl trivial ?_
    rw [h24]
    refine mm_cV (as := [.int (nI (s + k))]) (st := []) (q := 52) cw_Mo_byteAt lk_Mo_147 in_Mo_byteAt sl_Mo_byteAt rfl rfl (mm_at ok_Mo_next (i := 83) rfl).1 (ct_Mo_byteAt dy g1 r1 hx1 (i := s + k) (by omega)) (by decide) ⟨by omega, by omega⟩ (Nat.le_of_ble_eq_true rfl) (mm_vs_b (b := 77) rfl (hp_len dy)) (fun v h' hqq => ?_)
    obtain ⟨rfl, hqe⟩ := hqq; rw [hqe]
    refine mm_B ok_Mo_next 84 3 (175, [some (.ref 52), some (.int x), some (.int (nI k))], [.long 57, .long 48, .long ((by_ B n (s + k))).toInt64], (hp_SH ++ dy, g1, r1)) [] rfl trivial ?_
    refine mm_cS (as := [.long ((by_ B n (s + k))).toInt64, .long 48, .long 57]) (st := []) cw_Mo_in lk_Mo_100 sx_Mo_in (mm_at ok_Mo_next (i := 87) rfl).1 (ct_Mo_in (hp_SH ++ dy, g1, r1) (by_ B n (s + k)).toInt64 48 57) (by decide) ⟨by omega, by omega⟩ (Nat.le_of_ble_eq_true rfl) (mm_vs_b (b := 77) rfl (hp_len dy)) (fun v h' hqq => ?_)
    obtain ⟨rfl, hqe⟩ := hqq; rw [hqe]
    by_cases hc : s + k < n ∧ dg_ B (s + k) = true
    · rw [if_pos hc] at hin
      have hby : by_ B n (s + k) = B (s + k) := by unfold by_; rw [if_pos hc.1]
      have hstep : sk_ (dg_ B) n (s + (k + 1)) = sk_ (dg_ B) n s := by have h9 := sk_T (f := dg_ B) (n := n) (p := s + k) hc.2 hc.1; rw [← hsk, h9]; rfl
      rw [hin]
      refine mm_I ok_Mo_next 88 0 178 [some (.ref 52), some (.int x), some (.int (nI k))] [.int 1] (hp_SH ++ dy, g1, r1) [] rfl trivial rfl rfl (fun q => False.elim (absurd q (by decide))) (fun _ => ?_)
      refine mm_I ok_Mo_next 89 3 184 [some (.ref 52), some (.int x), some (.int (nI k))] [.int 4, .int (nI k), .ref 52] (hp_SH ++ dy, g1, r1) [] rfl trivial rfl rfl (fun q4 => ?_) (fun q4 => ?_)
      · have q2 : 4 ≤ k := Nat.not_lt.mp (fun e => absurd (nI_lt (b := 4) e (by decide)) (Int32.not_lt.mpr q4))
        refine mm_B ok_Mo_next 106 11 (160, [some (.ref 52), some (.int x), some (.int ((nI k) + 1))], [], (hp_SH ++ dy, mm_up g1 52 24 ((g1 52 24) + 1), (mm_ul r1.1 52 27 (r1.1 52 27), r1.2))) [] rfl trivial ?_
        rw [h24]
        rw [nI_1, nI_1]
        exact ih (k + 1) (mm_up g1 52 24 (nI (s + k + 1))) _ (by omega) (by omega) hr (hF.up _ rfl) h26 rfl (by show (r1.1 52 27).toInt32 = _; rw [hW, show min (k + 1) 4 = min k 4 by omega]) hstep
      · have q2 : k < 4 := Nat.not_le.mp (fun e => q4 (nI_le (a := 4) e (by omega)))
        refine mm_B ok_Mo_next 93 7 (200, [some (.ref 52), some (.int x), some (.int (nI k))], [.int (g1 52 24), .ref 52, .long (10 * (r1.1 52 27)), .ref 52], (hp_SH ++ dy, g1, r1)) [] rfl trivial ?_
        rw [h24]
        refine mm_cV (as := [.int (nI (s + k))]) (st := [.long (10 * (r1.1 52 27)), .ref 52]) (q := 52) cw_Mo_byteAt lk_Mo_147 in_Mo_byteAt sl_Mo_byteAt rfl rfl (mm_at ok_Mo_next (i := 100) rfl).1 (ct_Mo_byteAt dy g1 r1 hx1 (i := s + k) (by omega)) (by decide) ⟨by omega, by omega⟩ (Nat.le_of_ble_eq_true rfl) (mm_vs_b (b := 77) rfl (hp_len dy)) (fun v h' hqq => ?_)
        obtain ⟨rfl, hqe⟩ := hqq; rw [hqe]
        refine mm_B ok_Mo_next 101 5 (216, [some (.ref 52), some (.int x), some (.int (nI k))], [.long (((10 * (r1.1 52 27)) + ((by_ B n (s + k))).toInt64) - 48), .ref 52], (hp_SH ++ dy, g1, r1)) [] rfl trivial ?_
        refine mm_B ok_Mo_next 108 9 (160, [some (.ref 52), some (.int x), some (.int ((nI k) + 1))], [], (hp_SH ++ dy, mm_up g1 52 24 ((g1 52 24) + 1), (mm_ul r1.1 52 27 (((10 * (r1.1 52 27)) + ((by_ B n (s + k))).toInt64) - 48), r1.2))) [] rfl trivial ?_
        rw [h24]
        rw [nI_1, nI_1]
        refine ih (k + 1) (mm_up g1 52 24 (nI (s + k + 1))) _ (by omega) (by omega) hr (hF.up _ rfl) h26 rfl ?_ hstep
        show (10 * r1.1 52 27 + (by_ B n (s + k)).toInt64 - 48).toInt32 = _
        rw [tw_st, hW, hby, show min (k + 1) 4 = k + 1 by omega, show min k 4 = k by omega]
        rfl
    · rw [if_neg hc] at hin
      have e9 : sk_ (dg_ B) n s = s + k := by
        rw [← hsk]
        by_cases hpn : s + k < n
        · exact sk_F (by cases h : dg_ B (s + k) with
            | true => exact absurd ⟨hpn, h⟩ hc
            | false => rfl)
        · exact sk_ge (by omega)
      rw [hin]
      refine mm_I ok_Mo_next 88 0 178 [some (.ref 52), some (.int x), some (.int (nI k))] [.int 0] (hp_SH ++ dy, g1, r1) [] rfl trivial rfl rfl (fun _ => ?_) (fun q => False.elim (q rfl))
      exact hend k g1 r1 hp hr hF h26 h24 hW e9
theorem nx_sg (dy : List mm_Sh) (g : Nat → Nat → Int32) (r : (Nat → Nat → Int64) × Nat × (Nat → Int32)) {t n : Nat} {B sc : Nat → Int32} (hx : mx_ g t n B sc) {s : Nat} (hs : s < n) (hd : ¬ dg_ B s = true) (hl : ¬ lt_ B s = true) {g1 : Nat → Nat → Int32} (hF : fr_ mg_ g g1) (h26 : g1 52 26 = nI s) (h24 : g1 52 24 = nI s) (hsg : ¬ sg_ (B s) = -23) : mm_W 3 M_Mo_next 0 0 (fun v h' => v = none ∧ ∃ g' r', h' = (hp_SH ++ dy, g', r') ∧ r'.2 = r.2 ∧ fr_ mg_ g g' ∧ ml_ B n g' r' s) 0 0 (300, [some (.ref 52), some (.int (B s)), none], [], (hp_SH ++ dy, g1, r)) := by
  have hk : mk0 B n s = 3 := by unfold mk0; rw [if_neg (by omega), if_neg hd, if_neg hl, if_neg hsg]
  refine mm_B ok_Mo_next 150 13 (321, [some (.ref 52), some (.int (B s)), none], [], (hp_SH ++ dy, mm_up (mm_up g1 52 25 3) 52 24 ((g1 52 24) + 1), (mm_ul r.1 52 27 (((B s)).toInt64), r.2))) [] rfl trivial ?_
  rw [h24, nI_1]
  exact mm_r0 rfl (mm_at ok_Mo_next (i := 163) rfl).1 ⟨Nat.le_refl _, Nat.le_refl _⟩ (⟨rfl, mm_up (mm_up g1 52 25 3) 52 24 (nI (s + 1)), _, rfl, rfl, (hF.up _ rfl).up _ rfl, by unfold mh0; rw [if_neg (by omega), if_neg hd, if_neg hl, if_neg hsg]; rfl, hk.symm, h26, fun h => absurd (hk.symm.trans h) (by decide), fun _ => rfl⟩)
theorem nx_tl (dy : List mm_Sh) (g : Nat → Nat → Int32) (r : (Nat → Nat → Int64) × Nat × (Nat → Int32)) {t n : Nat} {B sc : Nat → Int32} (hx : mx_ g t n B sc) {s : Nat} (hs : s ≤ n) {g1 : Nat → Nat → Int32} (hF : fr_ mg_ g g1) (h24 : g1 52 24 = nI s) : mm_W 3 M_Mo_next 0 0 (fun v h' => v = none ∧ ∃ g' r', h' = (hp_SH ++ dy, g', r') ∧ r'.2 = r.2 ∧ fr_ mg_ g g' ∧ ml_ B n g' r' s) 0 0 (39, [some (.ref 52), none, none], [], (hp_SH ++ dy, g1, r)) := by
  have hn := hx.2.2.2.1
  have hx1 := mx_fr (mx_fr hx (hF.mono mf_mg)) (show fr_ mf_ g1 (mm_up g1 52 26 (nI s)) from fr_.rf.up _ rfl)
  refine mm_B ok_Mo_next 19 7 (52, [some (.ref 52), none, none], [.int (g1 52 24), .ref 52], (hp_SH ++ dy, mm_up g1 52 26 (g1 52 24), r)) [] rfl trivial ?_
  rw [h24]
  refine mm_cV (as := [.int (nI s)]) (st := []) (q := 52) cw_Mo_byteAt lk_Mo_147 in_Mo_byteAt sl_Mo_byteAt rfl rfl (mm_at ok_Mo_next (i := 26) rfl).1 (ct_Mo_byteAt dy (mm_up g1 52 26 (nI s)) r hx1 (i := s) (by omega)) (by decide) ⟨by omega, by omega⟩ (Nat.le_of_ble_eq_true rfl) (mm_vs_b (b := 77) rfl (hp_len dy)) (fun v h' hqq => ?_)
  obtain ⟨rfl, hqe⟩ := hqq; rw [hqe]
  have hF2 : fr_ mg_ g (mm_up (mm_up g1 52 26 (nI s)) 52 25 4) := (hF.up _ rfl).up _ rfl
  refine mm_B ok_Mo_next 27 5 (62, [some (.ref 52), some (.int (by_ B n s)), none], [.int (by_ B n s)], (hp_SH ++ dy, mm_up (mm_up g1 52 26 (nI s)) 52 25 4, r)) [] rfl trivial ?_
  by_cases hns : n ≤ s
  · have hby : by_ B n s = -1 := by unfold by_; rw [if_neg (by omega)]
    have hsn : s = n := by omega
    have hk : mk0 B n s = 0 := by unfold mk0; rw [if_pos hns]
    have h23 : mm_up (mm_up (mm_up g1 52 26 (nI s)) 52 25 4) 52 25 0 52 23 = nI n := hx1.2.1
    rw [hby]
    refine mm_I ok_Mo_next 32 0 62 [some (.ref 52), some (.int (-1)), none] [.int (-1)] (hp_SH ++ dy, mm_up (mm_up g1 52 26 (nI s)) 52 25 4, r) [] rfl trivial rfl rfl (fun q => False.elim (absurd q (by decide))) (fun _ => ?_)
    refine mm_B ok_Mo_next 33 8 (321, [some (.ref 52), some (.int (-1)), none], [], (hp_SH ++ dy, mm_up (mm_up (mm_up (mm_up g1 52 26 (nI s)) 52 25 4) 52 25 0) 52 26 (g1 52 23), r)) [] rfl trivial ?_
    exact mm_r0 rfl (mm_at ok_Mo_next (i := 163) rfl).1 ⟨Nat.le_refl _, Nat.le_refl _⟩ (⟨rfl, _, r, rfl, rfl, (hF2.up _ rfl).up _ rfl, by unfold mh0; rw [if_pos hns]; exact h24, hk.symm, by rw [hsn]; exact h23, fun h => absurd (hk.symm.trans h) (by decide), fun h => absurd (hk.symm.trans h) (by decide)⟩)
  · have hby : by_ B n s = B s := by unfold by_; rw [if_pos (by omega)]
    have hpos : 0 ≤ B s := (hx.2.2.2.2.1 s (by omega)).2
    have hlt := (in_lt (by_ B n s)).trans by_lt
    have hdg := (in_dg (by_ B n s)).trans by_dg
    rw [hby] at hlt hdg
    rw [hby]
    refine mm_I ok_Mo_next 32 0 62 [some (.ref 52), some (.int (B s)), none] [.int (B s)] (hp_SH ++ dy, mm_up (mm_up g1 52 26 (nI s)) 52 25 4, r) [] rfl trivial rfl rfl (fun _ => ?_) (fun q => False.elim (q hpos))
    refine mm_B ok_Mo_next 41 4 (89, [some (.ref 52), some (.int (B s)), none], [.long 122, .long 97, .long ((B s)).toInt64], (hp_SH ++ dy, mm_up (mm_up g1 52 26 (nI s)) 52 25 4, r)) [] rfl trivial ?_
    refine mm_cS (as := [.long ((B s)).toInt64, .long 97, .long 122]) (st := []) cw_Mo_in lk_Mo_100 sx_Mo_in (mm_at ok_Mo_next (i := 45) rfl).1 (ct_Mo_in (hp_SH ++ dy, mm_up (mm_up g1 52 26 (nI s)) 52 25 4, r) (B s).toInt64 97 122) (by decide) ⟨by omega, by omega⟩ (Nat.le_of_ble_eq_true rfl) (mm_vs_b (b := 77) rfl (hp_len dy)) (fun v h' hqq => ?_)
    obtain ⟨rfl, hqe⟩ := hqq; rw [hqe]
    by_cases hl : lt_ B s = true
    · have hd : ¬ dg_ B s = true := fun h => by rw [dg_lt h] at hl; cases hl
      rw [if_pos ⟨by omega, hl⟩] at hlt
      rw [hlt]
      refine mm_I ok_Mo_next 46 0 92 [some (.ref 52), some (.int (B s)), none] [.int 1] (hp_SH ++ dy, mm_up (mm_up g1 52 26 (nI s)) 52 25 4, r) [] rfl trivial rfl rfl (fun q => False.elim (absurd q (by decide))) (fun _ => ?_)
      refine mm_B ok_Mo_next 47 3 (100, [some (.ref 52), some (.int (B s)), none], [], (hp_SH ++ dy, mm_up (mm_up (mm_up g1 52 26 (nI s)) 52 25 4) 52 25 1, r)) [] rfl trivial ?_
      exact nx_wd dy g r hx (by omega) hd hl (B s) (n - s) s _ (Nat.le_refl _) (Nat.le_refl _) hs (hF2.up _ rfl) rfl rfl h24 rfl
    · rw [if_neg (fun h => hl h.2)] at hlt
      rw [hlt]
      refine mm_I ok_Mo_next 46 0 92 [some (.ref 52), some (.int (B s)), none] [.int 0] (hp_SH ++ dy, mm_up (mm_up g1 52 26 (nI s)) 52 25 4, r) [] rfl trivial rfl rfl (fun _ => ?_) (fun q => False.elim (q rfl))
      refine mm_B ok_Mo_next 66 4 (142, [some (.ref 52), some (.int (B s)), none], [.long 57, .long 48, .long ((B s)).toInt64], (hp_SH ++ dy, mm_up (mm_up g1 52 26 (nI s)) 52 25 4, r)) [] rfl trivial ?_
      refine mm_cS (as := [.long ((B s)).toInt64, .long 48, .long 57]) (st := []) cw_Mo_in lk_Mo_100 sx_Mo_in (mm_at ok_Mo_next (i := 70) rfl).1 (ct_Mo_in (hp_SH ++ dy, mm_up (mm_up g1 52 26 (nI s)) 52 25 4, r) (B s).toInt64 48 57) (by decide) ⟨by omega, by omega⟩ (Nat.le_of_ble_eq_true rfl) (mm_vs_b (b := 77) rfl (hp_len dy)) (fun v h' hqq => ?_)
      obtain ⟨rfl, hqe⟩ := hqq; rw [hqe]
      by_cases hd : dg_ B s = true
      · rw [if_pos ⟨by omega, hd⟩] at hdg
        rw [hdg]
        refine mm_I ok_Mo_next 71 0 145 [some (.ref 52), some (.int (B s)), none] [.int 1] (hp_SH ++ dy, mm_up (mm_up g1 52 26 (nI s)) 52 25 4, r) [] rfl trivial rfl rfl (fun q => False.elim (absurd q (by decide))) (fun _ => ?_)
        refine mm_B ok_Mo_next 72 8 (160, [some (.ref 52), some (.int (B s)), some (.int 0)], [], (hp_SH ++ dy, mm_up (mm_up (mm_up g1 52 26 (nI s)) 52 25 4) 52 25 2, (mm_ul r.1 52 27 0, r.2))) [] rfl trivial ?_
        exact nx_nu dy g r hx (by omega) hd (B s) (n - s) 0 _ _ (Nat.le_refl _) hs rfl (hF2.up _ rfl) rfl h24 rfl rfl
      · rw [if_neg (fun h => hd h.2)] at hdg
        rw [hdg]
        refine mm_I ok_Mo_next 71 0 145 [some (.ref 52), some (.int (B s)), none] [.int 0] (hp_SH ++ dy, mm_up (mm_up g1 52 26 (nI s)) 52 25 4, r) [] rfl trivial rfl rfl (fun _ => ?_) (fun q => False.elim (q rfl))
        refine mm_I ok_Mo_next 126 2 255 [some (.ref 52), some (.int (B s)), none] [.int 40, .int (B s)] (hp_SH ++ dy, mm_up (mm_up g1 52 26 (nI s)) 52 25 4, r) [] rfl trivial rfl rfl (fun q0 => ?_) (fun q0 => ?_)
        · exact nx_sg dy g r hx (by omega) hd hl hF2 rfl h24 (by rw [q0]; decide)
        refine mm_I ok_Mo_next 129 2 261 [some (.ref 52), some (.int (B s)), none] [.int 41, .int (B s)] (hp_SH ++ dy, mm_up (mm_up g1 52 26 (nI s)) 52 25 4, r) [] rfl trivial rfl rfl (fun q1 => ?_) (fun q1 => ?_)
        · exact nx_sg dy g r hx (by omega) hd hl hF2 rfl h24 (by rw [q1]; decide)
        refine mm_I ok_Mo_next 132 2 267 [some (.ref 52), some (.int (B s)), none] [.int 59, .int (B s)] (hp_SH ++ dy, mm_up (mm_up g1 52 26 (nI s)) 52 25 4, r) [] rfl trivial rfl rfl (fun q2 => ?_) (fun q2 => ?_)
        · exact nx_sg dy g r hx (by omega) hd hl hF2 rfl h24 (by rw [q2]; decide)
        refine mm_I ok_Mo_next 135 2 273 [some (.ref 52), some (.int (B s)), none] [.int 43, .int (B s)] (hp_SH ++ dy, mm_up (mm_up g1 52 26 (nI s)) 52 25 4, r) [] rfl trivial rfl rfl (fun q3 => ?_) (fun q3 => ?_)
        · exact nx_sg dy g r hx (by omega) hd hl hF2 rfl h24 (by rw [q3]; decide)
        refine mm_I ok_Mo_next 138 2 279 [some (.ref 52), some (.int (B s)), none] [.int 45, .int (B s)] (hp_SH ++ dy, mm_up (mm_up g1 52 26 (nI s)) 52 25 4, r) [] rfl trivial rfl rfl (fun q4 => ?_) (fun q4 => ?_)
        · exact nx_sg dy g r hx (by omega) hd hl hF2 rfl h24 (by rw [q4]; decide)
        refine mm_I ok_Mo_next 141 2 285 [some (.ref 52), some (.int (B s)), none] [.int 42, .int (B s)] (hp_SH ++ dy, mm_up (mm_up g1 52 26 (nI s)) 52 25 4, r) [] rfl trivial rfl rfl (fun q5 => ?_) (fun q5 => ?_)
        · exact nx_sg dy g r hx (by omega) hd hl hF2 rfl h24 (by rw [q5]; decide)
        refine mm_I ok_Mo_next 144 2 291 [some (.ref 52), some (.int (B s)), none] [.int 60, .int (B s)] (hp_SH ++ dy, mm_up (mm_up g1 52 26 (nI s)) 52 25 4, r) [] rfl trivial rfl rfl (fun q6 => ?_) (fun q6 => ?_)
        · exact nx_sg dy g r hx (by omega) hd hl hF2 rfl h24 (by rw [q6]; decide)
        refine mm_I ok_Mo_next 147 2 297 [some (.ref 52), some (.int (B s)), none] [.int 61, .int (B s)] (hp_SH ++ dy, mm_up (mm_up g1 52 26 (nI s)) 52 25 4, r) [] rfl trivial rfl rfl (fun q7 => ?_) (fun q7 => ?_)
        · have hsg : sg_ (B s) = -23 := by unfold sg_; rw [if_neg q0, if_neg q1, if_neg q5, if_neg q3, if_neg q4, if_neg q2, if_neg q6, if_neg q7]
          have hk : mk0 B n s = 4 := by unfold mk0; rw [if_neg (by omega), if_neg hd, if_neg hl, if_pos hsg]
          exact mm_r0 rfl (mm_at ok_Mo_next (i := 163) rfl).1 ⟨Nat.le_refl _, Nat.le_refl _⟩ (⟨rfl, _, r, rfl, rfl, hF2, by unfold mh0; rw [if_neg (by omega), if_neg hd, if_neg hl, if_pos hsg]; exact h24, hk.symm, rfl, fun h => absurd (hk.symm.trans h) (by decide), fun h => absurd (hk.symm.trans h) (by decide)⟩)
        · exact nx_sg dy g r hx (by omega) hd hl hF2 rfl h24 (by rw [q7]; decide)
theorem nx_go (dy : List mm_Sh) (g : Nat → Nat → Int32) (r : (Nat → Nat → Int64) × Nat × (Nat → Int32)) {t n : Nat} {B sc : Nat → Int32} (hx : mx_ g t n B sc) {q : Nat} (hq : q ≤ n) : ∀ (m p : Nat) (g1 : Nat → Nat → Int32), n - p ≤ m → p ≤ n → fr_ mg_ g g1 → g1 52 24 = nI p → sk_ (bl_ B) n p = ts_ B n q → mm_W 3 M_Mo_next 0 0 (fun v h' => v = none ∧ ∃ g' r', h' = (hp_SH ++ dy, g', r') ∧ r'.2 = r.2 ∧ fr_ mg_ g g' ∧ ml_ B n g' r' (ts_ B n q)) 0 0 (0, [some (.ref 52), none, none], [], (hp_SH ++ dy, g1, r)) := by
  have hn := hx.2.2.2.1
  intro m
  induction m with
  | zero =>
    intro p g1 hm hp hF h24 hsk
    have hx1 := mx_fr hx (hF.mono mf_mg)
    have hby : by_ B n p = -1 := by unfold by_; rw [if_neg (by omega)]
    refine mm_B ok_Mo_next 0 3 (5, [some (.ref 52), none, none], [.int (g1 52 24), .ref 52], (hp_SH ++ dy, g1, r)) [] rfl trivial ?_
    rw [h24]
    refine mm_cV (as := [.int (nI p)]) (st := []) (q := 52) cw_Mo_byteAt lk_Mo_147 in_Mo_byteAt sl_Mo_byteAt rfl rfl (mm_at ok_Mo_next (i := 3) rfl).1 (ct_Mo_byteAt dy g1 r hx1 (i := p) (by omega)) (by decide) ⟨by omega, by omega⟩ (Nat.le_of_ble_eq_true rfl) (mm_vs_b (b := 77) rfl (hp_len dy)) (fun v h' hqq => ?_)
    obtain ⟨rfl, hqe⟩ := hqq; rw [hqe]
    refine mm_B ok_Mo_next 4 1 (10, [some (.ref 52), none, none], [.int 32, .int (by_ B n p)], (hp_SH ++ dy, g1, r)) [] rfl trivial ?_
    rw [hby]
    refine mm_I ok_Mo_next 5 0 10 [some (.ref 52), none, none] [.int 32, .int (-1)] (hp_SH ++ dy, g1, r) [] rfl trivial rfl rfl (fun q => False.elim (absurd q (by decide))) (fun _ => ?_)
    refine mm_B ok_Mo_next 6 3 (18, [some (.ref 52), none, none], [.int (g1 52 24), .ref 52], (hp_SH ++ dy, g1, r)) [] rfl trivial ?_
    rw [h24]
    refine mm_cV (as := [.int (nI p)]) (st := []) (q := 52) cw_Mo_byteAt lk_Mo_147 in_Mo_byteAt sl_Mo_byteAt rfl rfl (mm_at ok_Mo_next (i := 9) rfl).1 (ct_Mo_byteAt dy g1 r hx1 (i := p) (by omega)) (by decide) ⟨by omega, by omega⟩ (Nat.le_of_ble_eq_true rfl) (mm_vs_b (b := 77) rfl (hp_len dy)) (fun v h' hqq => ?_)
    obtain ⟨rfl, hqe⟩ := hqq; rw [hqe]
    refine mm_B ok_Mo_next 10 1 (23, [some (.ref 52), none, none], [.int 10, .int (by_ B n p)], (hp_SH ++ dy, g1, r)) [] rfl trivial ?_
    rw [hby]
    refine mm_I ok_Mo_next 11 0 23 [some (.ref 52), none, none] [.int 10, .int (-1)] (hp_SH ++ dy, g1, r) [] rfl trivial rfl rfl (fun _ => ?_) (fun q => False.elim (absurd q (by decide)))
    exact nx_tl dy g r hx (ts_ub B hq) hF (by rw [h24, ← hsk, sk_ge (by omega)])
  | succ m ih =>
    intro p g1 hm hp hF h24 hsk
    by_cases hkn : p = n
    · exact ih p g1 (by omega) hp hF h24 hsk
    have hx1 := mx_fr hx (hF.mono mf_mg)
    have hby : by_ B n p = B p := by unfold by_; rw [if_pos (by omega)]
    refine mm_B ok_Mo_next 0 3 (5, [some (.ref 52), none, none], [.int (g1 52 24), .ref 52], (hp_SH ++ dy, g1, r)) [] rfl trivial ?_
    rw [h24]
    refine mm_cV (as := [.int (nI p)]) (st := []) (q := 52) cw_Mo_byteAt lk_Mo_147 in_Mo_byteAt sl_Mo_byteAt rfl rfl (mm_at ok_Mo_next (i := 3) rfl).1 (ct_Mo_byteAt dy g1 r hx1 (i := p) (by omega)) (by decide) ⟨by omega, by omega⟩ (Nat.le_of_ble_eq_true rfl) (mm_vs_b (b := 77) rfl (hp_len dy)) (fun v h' hqq => ?_)
    obtain ⟨rfl, hqe⟩ := hqq; rw [hqe]
    refine mm_B ok_Mo_next 4 1 (10, [some (.ref 52), none, none], [.int 32, .int (by_ B n p)], (hp_SH ++ dy, g1, r)) [] rfl trivial ?_
    rw [hby]
    refine mm_I ok_Mo_next 5 0 10 [some (.ref 52), none, none] [.int 32, .int (B p)] (hp_SH ++ dy, g1, r) [] rfl trivial rfl rfl (fun q1 => ?_) (fun q1 => ?_)
    · refine mm_B ok_Mo_next 12 7 (0, [some (.ref 52), none, none], [], (hp_SH ++ dy, mm_up g1 52 24 ((g1 52 24) + 1), r)) [] rfl trivial ?_
      rw [h24]
      rw [nI_1]
      exact ih (p + 1) (mm_up g1 52 24 (nI (p + 1))) (by omega) (by omega) (hF.up _ rfl) rfl (by have h9 := sk_T (f := bl_ B) (n := n) (p := p) (by unfold bl_; rw [decide_eq_true q1]; rfl) (by omega); rw [← h9]; exact hsk)
    · refine mm_B ok_Mo_next 6 3 (18, [some (.ref 52), none, none], [.int (g1 52 24), .ref 52], (hp_SH ++ dy, g1, r)) [] rfl trivial ?_
      rw [h24]
      refine mm_cV (as := [.int (nI p)]) (st := []) (q := 52) cw_Mo_byteAt lk_Mo_147 in_Mo_byteAt sl_Mo_byteAt rfl rfl (mm_at ok_Mo_next (i := 9) rfl).1 (ct_Mo_byteAt dy g1 r hx1 (i := p) (by omega)) (by decide) ⟨by omega, by omega⟩ (Nat.le_of_ble_eq_true rfl) (mm_vs_b (b := 77) rfl (hp_len dy)) (fun v h' hqq => ?_)
      obtain ⟨rfl, hqe⟩ := hqq; rw [hqe]
      refine mm_B ok_Mo_next 10 1 (23, [some (.ref 52), none, none], [.int 10, .int (by_ B n p)], (hp_SH ++ dy, g1, r)) [] rfl trivial ?_
      rw [hby]
      refine mm_I ok_Mo_next 11 0 23 [some (.ref 52), none, none] [.int 10, .int (B p)] (hp_SH ++ dy, g1, r) [] rfl trivial rfl rfl (fun q2 => ?_) (fun q2 => ?_)
      · exact nx_tl dy g r hx (ts_ub B hq) hF (by rw [h24, ← hsk, sk_F (by unfold bl_; rw [decide_eq_false q1, decide_eq_false q2]; rfl)])
      · refine mm_B ok_Mo_next 12 7 (0, [some (.ref 52), none, none], [], (hp_SH ++ dy, mm_up g1 52 24 ((g1 52 24) + 1), r)) [] rfl trivial ?_
        rw [h24]
        rw [nI_1]
        exact ih (p + 1) (mm_up g1 52 24 (nI (p + 1))) (by omega) (by omega) (hF.up _ rfl) rfl (by have h9 := sk_T (f := bl_ B) (n := n) (p := p) (by unfold bl_; rw [decide_eq_true q2]; simp) (by omega); rw [← h9]; exact hsk)
theorem ct_Mo_next (dy : List mm_Sh) (g : Nat → Nat → Int32) (r : (Nat → Nat → Int64) × Nat × (Nat → Int32)) {t n : Nat} {B sc : Nat → Int32} (hx : mx_ g t n B sc) {q : Nat} (hq : q ≤ n) (h24 : g 52 24 = nI q) : mm_Ct 3 M_Mo_next [.ref 52] (hp_SH ++ dy, g, r) 0 0 (fun v h' => v = none ∧ ∃ g' r', h' = (hp_SH ++ dy, g', r') ∧ r'.2 = r.2 ∧ fr_ mg_ g g' ∧ ml_ B n g' r' (ts_ B n q)) := by
  refine mm_start pl_Mo (Nat.le_of_ble_eq_true rfl) ?_
  exact nx_go dy g r hx hq (n - q) q g (Nat.le_refl _) hq fr_.rf h24 rfl

