/-! ===== tokens: what stands where; Reader.number, word, sign, advance ===== -/
/-- a run of places -/
def rn_ (f : Nat → Bool) : Nat → Nat → Nat
  | 0, p => p
  | m + 1, p => if f p = true then rn_ f m (p + 1) else p
def sk_ (f : Nat → Bool) (n p : Nat) : Nat := rn_ f (n - p) p
theorem rn_le (f : Nat → Bool) : ∀ m p, p ≤ rn_ f m p ∧ rn_ f m p ≤ p + m
  | 0, p => ⟨Nat.le_refl _, Nat.le_refl _⟩
  | m + 1, p => by
    have := rn_le f m (p + 1)
    simp only [rn_]
    split <;> omega
theorem sk_le (f : Nat → Bool) (n p : Nat) : p ≤ sk_ f n p := (rn_le f _ p).1
theorem sk_ub (f : Nat → Bool) {n p : Nat} (h : p ≤ n) : sk_ f n p ≤ n := by
  have := (rn_le f (n - p) p).2
  unfold sk_
  omega
theorem sk_T {f : Nat → Bool} {n p : Nat} (h : f p = true) (hp : p < n) : sk_ f n p = sk_ f n (p + 1) := by
  unfold sk_
  obtain ⟨m, hm⟩ : ∃ m, n - p = m + 1 := ⟨n - p - 1, by omega⟩
  rw [hm, show n - (p + 1) = m by omega]
  simp only [rn_]
  rw [if_pos h]
theorem sk_F {f : Nat → Bool} {n p : Nat} (h : f p = false) : sk_ f n p = p := by
  unfold sk_
  cases hm : n - p with
  | zero => rfl
  | succ m =>
    simp only [rn_]
    rw [if_neg (by rw [h]; decide)]
theorem sk_ge {f : Nat → Bool} {n p : Nat} (h : n ≤ p) : sk_ f n p = p := by
  unfold sk_
  rw [show n - p = 0 by omega]
  rfl
/-- all places of a run hold -/
theorem rn_all (f : Nat → Bool) : ∀ m p j, p ≤ j → j < rn_ f m p → f j = true
  | 0, p, j, h1, h2 => by simp only [rn_] at h2; omega
  | m + 1, p, j, h1, h2 => by
    simp only [rn_] at h2
    split at h2
    · rename_i hf
      by_cases e : j = p
      · rw [e]; exact hf
      · exact rn_all f m (p + 1) j (by omega) h2
    · omega
theorem sk_all {f : Nat → Bool} {n p j : Nat} (h1 : p ≤ j) (h2 : j < sk_ f n p) : f j = true := rn_all f _ p j h1 h2
theorem rn_stop (f : Nat → Bool) : ∀ m p, rn_ f m p < p + m → f (rn_ f m p) = false
  | 0, p, h => by simp only [rn_] at h; omega
  | m + 1, p, h => by
    simp only [rn_] at h ⊢
    split at h
    · rename_i hf
      rw [if_pos hf]
      exact rn_stop f m (p + 1) (by omega)
    · rename_i hf
      rw [if_neg hf]
      simpa using hf
theorem sk_stop {f : Nat → Bool} {n p : Nat} (h : sk_ f n p < n) : f (sk_ f n p) = false := by
  by_cases hp : p ≤ n
  · exact rn_stop f _ p (by unfold sk_ at h; omega)
  · exfalso
    have := sk_le f n p
    omega
def bl_ (B : Nat → Int32) (j : Nat) : Bool := decide (B j = 32) || decide (B j = 10)
def dg_ (B : Nat → Int32) (j : Nat) : Bool := decide (f_Re_isDigit (B j) = 1)
def lt_ (B : Nat → Int32) (j : Nat) : Bool := decide (f_Re_isLetter (B j) = 1)
/-- a number's value, of its first k digits -/
def nv_ (B : Nat → Int32) (s : Nat) : Nat → Int32
  | 0 => 0
  | k + 1 => nv_ B s k * 10 + B (s + k) - 48
def sg_ (x : Int32) : Int32 := if x = 40 then -16 else if x = 41 then -17 else if x = 42 then -14 else if x = 43 then -12 else if x = 45 then -13 else if x = 59 then -18 else if x = 60 then -10 else if x = 61 then -11 else -23
def wo_ (B : Nat → Int32) (s e i : Nat) : Bool := wm_ B s e (mm_sb.getD i [])
def wc_ (B : Nat → Int32) (s e : Nat) : Int32 :=
  if wo_ B s e 0 = true then -1 else if wo_ B s e 1 = true then -2 else if wo_ B s e 2 = true then -3 else if wo_ B s e 3 = true then -4 else if wo_ B s e 4 = true then -5 else if wo_ B s e 5 = true then -6 else if wo_ B s e 6 = true then -7 else if wo_ B s e 7 = true then -8 else if wo_ B s e 8 = true then -9 else if wo_ B s e 9 = true then -19 else if wo_ B s e 10 = true then -20 else if wo_ B s e 11 = true then -21 else -23
/-- where the token behind place q begins -/
def ts_ (B : Nat → Int32) (n q : Nat) : Nat := sk_ (bl_ B) n q
/-- the token that begins at s; where it ends -/
def tk0 (B : Nat → Int32) (n s : Nat) : Int32 := if n ≤ s then -22 else if dg_ B s = true then (if 4 < sk_ (dg_ B) n s - s then -23 else nv_ B s (sk_ (dg_ B) n s - s)) else if lt_ B s = true then wc_ B s (sk_ (lt_ B) n s) else sg_ (B s)
def nx0 (B : Nat → Int32) (n s : Nat) : Nat := if n ≤ s then s else if dg_ B s = true then sk_ (dg_ B) n s else if lt_ B s = true then sk_ (lt_ B) n s else s + 1
def tk_ (B : Nat → Int32) (n q : Nat) : Int32 := tk0 B n (ts_ B n q)
def nx_ (B : Nat → Int32) (n q : Nat) : Nat := nx0 B n (ts_ B n q)
theorem ts_le (B : Nat → Int32) (n q : Nat) : q ≤ ts_ B n q := sk_le _ _ _
theorem ts_ub (B : Nat → Int32) {n q : Nat} (h : q ≤ n) : ts_ B n q ≤ n := sk_ub _ h
theorem nx0_ub (B : Nat → Int32) {n s : Nat} (h : s ≤ n) : nx0 B n s ≤ n := by
  unfold nx0
  split
  · exact h
  · split
    · exact sk_ub _ h
    · split
      · exact sk_ub _ h
      · omega
theorem nx0_lt (B : Nat → Int32) {n s : Nat} (h : s < n) : s < nx0 B n s := by
  unfold nx0
  rw [if_neg (by omega)]
  split
  · rename_i hd
    rw [sk_T hd h]
    exact sk_le _ n (s + 1)
  · split
    · rename_i hd
      rw [sk_T hd h]
      exact sk_le _ n (s + 1)
    · omega
theorem nx_ub (B : Nat → Int32) {n q : Nat} (h : q ≤ n) : nx_ B n q ≤ n := nx0_ub B (ts_ub B h)
theorem nx_lt (B : Nat → Int32) {n q : Nat} (ht : ¬ tk_ B n q = -22) : q < nx_ B n q := by
  have h1 := ts_le B n q
  have : ¬ n ≤ ts_ B n q := fun e => ht (by unfold tk_ tk0; rw [if_pos e])
  have := nx0_lt B (show ts_ B n q < n by omega)
  unfold nx_
  omega
/-- the places of Reader that a token changes -/
def f3_ (k j : Nat) : Bool := k == 31 && (j == 2 || j == 3 || j == 4)
theorem f3_nr : ∀ k j, nr_s k j = false → f3_ k j = false := by
  intro k j h
  unfold f3_
  cases h13 : k == 31 with
  | true =>
    rw [show k = 31 by simpa using h13] at h
    have h2 : Nat.ble 2 j = false := h
    cases hj : (j == 2 || j == 3 || j == 4) with
    | true =>
      simp at hj
      rcases hj with (rfl | rfl) | rfl <;> cases h2
    | false => rfl
  | false => rfl
theorem ct_Re_sign (h : mm_Hp) (x : Int32) : mm_Ct 1 M_Re_sign [.int x] h 0 0 (fun v h' => v = some (.int (sg_ x)) ∧ h' = h) := by
  refine mm_start pl_Re (Nat.le_of_ble_eq_true rfl) ?_
  refine mm_B ok_Re_sign 0 1 (1, [some (.int x)], [.int x], h) [] rfl trivial ?_
  by_cases s40 : x = 40
  · refine mm_sw (tgt := 104) (mm_at ok_Re_sign (i := 1) rfl).1 (by rw [s40]; exact Or.inr ⟨by decide, _, rfl, by decide⟩) ?_
    refine mm_B ok_Re_sign 2 1 (106, [some (.int x)], [.int (-16)], h) [] rfl trivial ?_
    exact mm_ri rfl (mm_at ok_Re_sign (i := 3) rfl).1 ⟨Nat.le_refl _, Nat.le_refl _⟩ (⟨by rw [s40]; rfl, rfl⟩)
  by_cases s41 : x = 41
  · refine mm_sw (tgt := 107) (mm_at ok_Re_sign (i := 1) rfl).1 (by rw [s41]; exact Or.inr ⟨by decide, _, rfl, by decide⟩) ?_
    refine mm_B ok_Re_sign 4 1 (109, [some (.int x)], [.int (-17)], h) [] rfl trivial ?_
    exact mm_ri rfl (mm_at ok_Re_sign (i := 5) rfl).1 ⟨Nat.le_refl _, Nat.le_refl _⟩ (⟨by rw [s41]; rfl, rfl⟩)
  by_cases s42 : x = 42
  · refine mm_sw (tgt := 119) (mm_at ok_Re_sign (i := 1) rfl).1 (by rw [s42]; exact Or.inr ⟨by decide, _, rfl, by decide⟩) ?_
    refine mm_B ok_Re_sign 12 1 (121, [some (.int x)], [.int (-14)], h) [] rfl trivial ?_
    exact mm_ri rfl (mm_at ok_Re_sign (i := 13) rfl).1 ⟨Nat.le_refl _, Nat.le_refl _⟩ (⟨by rw [s42]; rfl, rfl⟩)
  by_cases s43 : x = 43
  · refine mm_sw (tgt := 113) (mm_at ok_Re_sign (i := 1) rfl).1 (by rw [s43]; exact Or.inr ⟨by decide, _, rfl, by decide⟩) ?_
    refine mm_B ok_Re_sign 8 1 (115, [some (.int x)], [.int (-12)], h) [] rfl trivial ?_
    exact mm_ri rfl (mm_at ok_Re_sign (i := 9) rfl).1 ⟨Nat.le_refl _, Nat.le_refl _⟩ (⟨by rw [s43]; rfl, rfl⟩)
  by_cases s45 : x = 45
  · refine mm_sw (tgt := 116) (mm_at ok_Re_sign (i := 1) rfl).1 (by rw [s45]; exact Or.inr ⟨by decide, _, rfl, by decide⟩) ?_
    refine mm_B ok_Re_sign 10 1 (118, [some (.int x)], [.int (-13)], h) [] rfl trivial ?_
    exact mm_ri rfl (mm_at ok_Re_sign (i := 11) rfl).1 ⟨Nat.le_refl _, Nat.le_refl _⟩ (⟨by rw [s45]; rfl, rfl⟩)
  by_cases s59 : x = 59
  · refine mm_sw (tgt := 110) (mm_at ok_Re_sign (i := 1) rfl).1 (by rw [s59]; exact Or.inr ⟨by decide, _, rfl, by decide⟩) ?_
    refine mm_B ok_Re_sign 6 1 (112, [some (.int x)], [.int (-18)], h) [] rfl trivial ?_
    exact mm_ri rfl (mm_at ok_Re_sign (i := 7) rfl).1 ⟨Nat.le_refl _, Nat.le_refl _⟩ (⟨by rw [s59]; rfl, rfl⟩)
  by_cases s60 : x = 60
  · refine mm_sw (tgt := 122) (mm_at ok_Re_sign (i := 1) rfl).1 (by rw [s60]; exact Or.inr ⟨by decide, _, rfl, by decide⟩) ?_
    refine mm_B ok_Re_sign 14 1 (124, [some (.int x)], [.int (-10)], h) [] rfl trivial ?_
    exact mm_ri rfl (mm_at ok_Re_sign (i := 15) rfl).1 ⟨Nat.le_refl _, Nat.le_refl _⟩ (⟨by rw [s60]; rfl, rfl⟩)
  by_cases s61 : x = 61
  · refine mm_sw (tgt := 125) (mm_at ok_Re_sign (i := 1) rfl).1 (by rw [s61]; exact Or.inr ⟨by decide, _, rfl, by decide⟩) ?_
    refine mm_B ok_Re_sign 16 1 (127, [some (.int x)], [.int (-11)], h) [] rfl trivial ?_
    exact mm_ri rfl (mm_at ok_Re_sign (i := 17) rfl).1 ⟨Nat.le_refl _, Nat.le_refl _⟩ (⟨by rw [s61]; rfl, rfl⟩)
  have e9 : sg_ x = -23 := by unfold sg_; rw [if_neg s40, if_neg s41, if_neg s42, if_neg s43, if_neg s45, if_neg s59, if_neg s60, if_neg s61]
  have n40 : x.toInt ≠ 40 := fun e => s40 (Int32.toInt_inj.mp e)
  have n41 : x.toInt ≠ 41 := fun e => s41 (Int32.toInt_inj.mp e)
  have n42 : x.toInt ≠ 42 := fun e => s42 (Int32.toInt_inj.mp e)
  have n43 : x.toInt ≠ 43 := fun e => s43 (Int32.toInt_inj.mp e)
  have n45 : x.toInt ≠ 45 := fun e => s45 (Int32.toInt_inj.mp e)
  have n59 : x.toInt ≠ 59 := fun e => s59 (Int32.toInt_inj.mp e)
  have n60 : x.toInt ≠ 60 := fun e => s60 (Int32.toInt_inj.mp e)
  have n61 : x.toInt ≠ 61 := fun e => s61 (Int32.toInt_inj.mp e)
  have hcs : (x.toInt < 40 ∨ 61 < x.toInt) ∨ x.toInt = 44 ∨ x.toInt = 46 ∨ x.toInt = 47 ∨ x.toInt = 48 ∨ x.toInt = 49 ∨ x.toInt = 50 ∨ x.toInt = 51 ∨ x.toInt = 52 ∨ x.toInt = 53 ∨ x.toInt = 54 ∨ x.toInt = 55 ∨ x.toInt = 56 ∨ x.toInt = 57 ∨ x.toInt = 58 := by omega
  refine mm_sw (tgt := 128) (mm_at ok_Re_sign (i := 1) rfl).1 (by rcases hcs with hs | hs | hs | hs | hs | hs | hs | hs | hs | hs | hs | hs | hs | hs | hs <;> first | exact Or.inl ⟨hs, by decide⟩ | (rw [hs]; exact Or.inr ⟨by decide, _, rfl, by decide⟩)) ?_
  refine mm_B ok_Re_sign 18 1 (130, [some (.int x)], [.int (-23)], h) [] rfl trivial ?_
  exact mm_ri rfl (mm_at ok_Re_sign (i := 19) rfl).1 ⟨Nat.le_refl _, Nat.le_refl _⟩ (⟨by rw [e9], rfl⟩)
theorem nu_go (dy : List mm_Sh) (g P : Nat → Nat → Int32) (r : (Nat → Nat → Int64) × Nat × (Nat → Int32)) (hP : nr_ g = P) {B : Nat → Int32} {n : Nat} (hN : P 31 1 = nI n) (hn : n ≤ 160) (hB : ∀ j, j < n → P 32 j = B j) {s : Nat} (hs : s ≤ n) (h2 : g 31 2 = nI s) : ∀ (m k : Nat) (g1 : Nat → Nat → Int32), n - (s + k) ≤ m → s + k ≤ n → fr_ f3_ g g1 → g1 31 2 = nI s → g1 31 3 = nI (s + k) → sk_ (dg_ B) n (s + k) = sk_ (dg_ B) n s → mm_W 2 M_Re_number 0 0 (fun v h' => v = some (.int (if 4 < sk_ (dg_ B) n s - s then -23 else nv_ B s (sk_ (dg_ B) n s - s))) ∧ ∃ g', h' = (hp_SH ++ dy, g', r) ∧ fr_ f3_ g g' ∧ g' 31 2 = nI s ∧ g' 31 3 = nI (sk_ (dg_ B) n s)) 0 0 (2, [some (.ref 31), some (.int (nv_ B s k))], [], (hp_SH ++ dy, g1, r)) := by
  intro m
  induction m with
  | zero =>
    intro k g1 hm hk hF h12 h13 hsk
    have hP1 := hF.nr f3_nr hP
    have e1 : g1 31 1 = nI n := by rw [nr_at hP1 31 1 rfl]; exact hN
    refine mm_B ok_Re_number 2 4 (10, [some (.ref 31), some (.int (nv_ B s k))], [.int (g1 31 1), .int (g1 31 3)], (hp_SH ++ dy, g1, r)) [] rfl trivial ?_
    rw [h13]
    rw [e1]
    refine mm_I ok_Re_number 6 0 10 [some (.ref 31), some (.int (nv_ B s k))] [.int (nI n), .int (nI (s + k))] (hp_SH ++ dy, g1, r) [] rfl trivial rfl rfl (fun _ => ?_) (fun q => False.elim (q (nI_le (by omega) (by omega))))
    have e9 : sk_ (dg_ B) n s = s + k := by rw [← hsk]; exact sk_ge (by omega)
    refine mm_B ok_Re_number 33 6 (69, [some (.ref 31), some (.int (nv_ B s k))], [.int 4, .int ((g1 31 3) - (g1 31 2))], (hp_SH ++ dy, g1, r)) [] rfl trivial ?_
    rw [h13, h12, nI_sub (by omega), show s + k - s = k by omega]
    refine mm_I ok_Re_number 39 0 69 [some (.ref 31), some (.int (nv_ B s k))] [.int 4, .int (nI k)] (hp_SH ++ dy, g1, r) [] rfl trivial rfl rfl (fun q => ?_) (fun q => ?_)
    · have q2 : ¬ 4 < k := fun e => absurd q (Int32.not_le.mpr (nI_lt (a := 4) e (by omega)))
      refine mm_B ok_Re_number 42 1 (78, [some (.ref 31), some (.int (nv_ B s k))], [.int (nv_ B s k)], (hp_SH ++ dy, g1, r)) [] rfl trivial ?_
      exact mm_ri rfl (mm_at ok_Re_number (i := 43) rfl).1 ⟨Nat.le_refl _, Nat.le_refl _⟩ (⟨by rw [e9, show s + k - s = k by omega, if_neg q2], g1, rfl, hF, h12, by rw [e9]; exact h13⟩)
    · have q2 : 4 < k := Nat.not_le.mp (fun e => q (nI_le (b := 4) e (by omega)))
      refine mm_B ok_Re_number 40 2 (78, [some (.ref 31), some (.int (nv_ B s k))], [.int (-23)], (hp_SH ++ dy, g1, r)) [] rfl trivial ?_
      exact mm_ri rfl (mm_at ok_Re_number (i := 43) rfl).1 ⟨Nat.le_refl _, Nat.le_refl _⟩ (⟨by rw [e9, show s + k - s = k by omega, if_pos q2], g1, rfl, hF, h12, by rw [e9]; exact h13⟩)
  | succ m ih =>
    intro k g1 hm hk hF h12 h13 hsk
    by_cases hkn : s + k = n
    · exact ih k g1 (by omega) hk hF h12 h13 hsk
    have hP1 := hF.nr f3_nr hP
    have e1 : g1 31 1 = nI n := by rw [nr_at hP1 31 1 rfl]; exact hN
    have eb : g1 32 (nI (s + k)).toNatClampNeg = B (s + k) := by rw [nI_clamp (by omega), nr_at hP1 32 _ rfl]; exact hB _ (by omega)
    refine mm_B ok_Re_number 2 4 (10, [some (.ref 31), some (.int (nv_ B s k))], [.int (g1 31 1), .int (g1 31 3)], (hp_SH ++ dy, g1, r)) [] rfl trivial ?_
    rw [h13]
    rw [e1]
    refine mm_I ok_Re_number 6 0 10 [some (.ref 31), some (.int (nv_ B s k))] [.int (nI n), .int (nI (s + k))] (hp_SH ++ dy, g1, r) [] rfl trivial rfl rfl (fun q => False.elim (nI_ge (show s + k < n by omega) (by omega) q)) (fun _ => ?_)
    refine mm_B ok_Re_number 7 5 (22, [some (.ref 31), some (.int (nv_ B s k))], [.int (g1 32 ((g1 31 3).toNatClampNeg))], (hp_SH ++ dy, g1, r)) [vp_in (g1 31 3) 160] rfl (show vp_in (g1 31 3) 160 from (by rw [h13]; exact nI_vi (by omega) (by decide))) ?_
    rw [h13]
    rw [eb]
    refine mm_cS (as := [.int (B (s + k))]) (st := []) cw_Re_isDigit lk_Re_78 sx_Re_isDigit (mm_at ok_Re_number (i := 12) rfl).1 (ct_Re_isDigit (hp_SH ++ dy, g1, r) (B (s + k))) (by decide) ⟨by omega, by omega⟩ (Nat.le_of_ble_eq_true rfl) (mm_vs_b (b := 77) rfl (hp_len dy)) (fun v h' hqq => ?_)
    obtain ⟨rfl, hqe⟩ := hqq; rw [hqe]
    by_cases hd : dg_ B (s + k) = true
    · have hd1 : f_Re_isDigit (B (s + k)) = 1 := of_decide_eq_true hd
      rw [hd1]
      refine mm_I ok_Re_number 13 0 25 [some (.ref 31), some (.int (nv_ B s k))] [.int 1] (hp_SH ++ dy, g1, r) [] rfl trivial rfl rfl (fun q => False.elim (absurd q (by decide))) (fun _ => ?_)
      refine mm_B ok_Re_number 14 19 (2, [some (.ref 31), some (.int ((((nv_ B s k) * 10) + (g1 32 ((g1 31 3).toNatClampNeg))) - 48))], [], (hp_SH ++ dy, mm_up g1 31 3 ((g1 31 3) + 1), r)) [vp_in (g1 31 3) 160] rfl (show vp_in (g1 31 3) 160 from (by rw [h13]; exact nI_vi (by omega) (by decide))) ?_
      rw [h13]
      rw [eb, nI_1]
      exact ih (k + 1) (mm_up g1 31 3 (nI (s + k + 1))) (by omega) (by omega) (hF.up _ rfl) h12 rfl (by rw [← hsk, sk_T hd (by omega)]; rfl)
    · have hd1 : f_Re_isDigit (B (s + k)) = 0 := (zo_Re_isDigit _).resolve_right (fun e => hd (decide_eq_true e))
      rw [hd1]
      refine mm_I ok_Re_number 13 0 25 [some (.ref 31), some (.int (nv_ B s k))] [.int 0] (hp_SH ++ dy, g1, r) [] rfl trivial rfl rfl (fun _ => ?_) (fun q => False.elim (q rfl))
      have e9 : sk_ (dg_ B) n s = s + k := by rw [← hsk]; exact sk_F (by simpa using hd)
      refine mm_B ok_Re_number 33 6 (69, [some (.ref 31), some (.int (nv_ B s k))], [.int 4, .int ((g1 31 3) - (g1 31 2))], (hp_SH ++ dy, g1, r)) [] rfl trivial ?_
      rw [h13, h12, nI_sub (by omega), show s + k - s = k by omega]
      refine mm_I ok_Re_number 39 0 69 [some (.ref 31), some (.int (nv_ B s k))] [.int 4, .int (nI k)] (hp_SH ++ dy, g1, r) [] rfl trivial rfl rfl (fun q => ?_) (fun q => ?_)
      · have q2 : ¬ 4 < k := fun e => absurd q (Int32.not_le.mpr (nI_lt (a := 4) e (by omega)))
        refine mm_B ok_Re_number 42 1 (78, [some (.ref 31), some (.int (nv_ B s k))], [.int (nv_ B s k)], (hp_SH ++ dy, g1, r)) [] rfl trivial ?_
        exact mm_ri rfl (mm_at ok_Re_number (i := 43) rfl).1 ⟨Nat.le_refl _, Nat.le_refl _⟩ (⟨by rw [e9, show s + k - s = k by omega, if_neg q2], g1, rfl, hF, h12, by rw [e9]; exact h13⟩)
      · have q2 : 4 < k := Nat.not_le.mp (fun e => q (nI_le (b := 4) e (by omega)))
        refine mm_B ok_Re_number 40 2 (78, [some (.ref 31), some (.int (nv_ B s k))], [.int (-23)], (hp_SH ++ dy, g1, r)) [] rfl trivial ?_
        exact mm_ri rfl (mm_at ok_Re_number (i := 43) rfl).1 ⟨Nat.le_refl _, Nat.le_refl _⟩ (⟨by rw [e9, show s + k - s = k by omega, if_pos q2], g1, rfl, hF, h12, by rw [e9]; exact h13⟩)

