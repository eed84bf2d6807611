/-! ===== the model's calls: chance ===== -/
theorem lN_div {a b : Nat} (ha : a < 2 ^ 31) (hb : b < 2 ^ 31) : lN a / lN b = lN (a / b) := by
  have hd := Nat.div_le_self a b
  rw [← Int64.toInt_inj, Int64.toInt_div_of_ne_left, lN_toInt ha, lN_toInt hb, lN_toInt (by omega)]
  · exact Int.ofNat_tdiv a b
  · intro e
    have := congrArg Int64.toInt e
    rw [lN_toInt ha] at this
    have h2 : Int64.minValue.toInt = -9223372036854775808 := by decide
    omega
theorem lN_mod {a b : Nat} (ha : a < 2 ^ 31) (hb : b < 2 ^ 31) : lN a - lN a / lN b * lN b = lN (a % b) := by
  rw [lN_div ha hb, lN_mul, lN_sub (Nat.div_mul_le_self a b)]
  congr 1
  have := Nat.div_add_mod a b
  rw [Nat.mul_comm] at this
  omega
theorem in_nk (x : Int32) : f_Mo_in x.toInt64 1 20 = iz_ (nk_ x) := by
  rw [show (1 : Int64) = (nI 1).toInt64 by decide, show (20 : Int64) = (nI 20).toInt64 by decide, in_be (by decide) (by decide)]
  cases h : nk_ x with
  | none => exact if_pos (nk_none h)
  | some n =>
    obtain ⟨h1, h2, rfl, h3⟩ := nk_some h
    exact if_neg (fun q => q.elim h3 (fun q => absurd q (Int32.not_lt.mpr (nI_le (b := 20) (by omega) (by decide)))))
def al_ (E : Nat → Nat) (l : Nat) : Nat → Bool
  | 0 => true
  | n + 1 => al_ E l n && (E n / 2 ^ l % 2 == 1)
theorem al_sum {T : sp_T} {C : Nat → List Int32} {K : sp_K} {pl : Nat → Option Nat} {l : Nat} : ∀ n, (sp_sum (sp_whb T C K pl l) n = 2 ^ n - 1 ↔ al_ (sp_end T C K pl) l n = true)
  | 0 => by simp [sp_sum, al_]
  | n + 1 => by
    have ih := al_sum (T := T) (C := C) (K := K) (pl := pl) (l := l) n
    have h1 := sp_sum_lt (sp_whb T C K pl l) sp_whb_or n
    have h2 : 2 ^ (n + 1) = 2 ^ n + 2 ^ n := by rw [Nat.pow_succ]; omega
    have h3 := Nat.mod_lt (sp_end T C K pl n / 2 ^ l) (show 0 < 2 by decide)
    unfold al_
    simp only [sp_sum]
    rw [Bool.and_eq_true, ← ih, beq_iff_eq]
    by_cases hz : sp_end T C K pl n / 2 ^ l % 2 = 0
    · rw [show sp_whb T C K pl l n = 0 from if_pos hz]
      constructor
      · intro h; omega
      · intro h; omega
    · rw [show sp_whb T C K pl l n = 2 ^ n from if_neg hz]
      constructor
      · intro h; exact ⟨by omega, by omega⟩
      · intro h; omega
theorem mal_in (dy : List mm_Sh) (g : Nat → Nat → Int32) (r : (Nat → Nat → Int64) × Nat × (Nat → Int32)) {A : sA} (hI : MI (nr_ g) A) {l : Nat} {pl : Nat → Option Nat} (hl : l < A.1.1) (hpo : ∀ b l, b < 6 → pl b = some l → l < A.1.1) {Q : Option Value → mm_Hp → Prop} {v1 v2 v3 v5 v8 : Int32} {lc : Int64} (hnx : ∀ g2 r2 (k : Nat), r2.2 = r.2 → fr_ mz_ g g2 → nh_ (aC A) A.2.1.2.2.2 g2 → mm_W 75 M_Mo_chance 0 0 Q 0 0 (141, [some (.ref 52), some (.int v1), some (.int v2), some (.int v3), some (.int (nI l)), some (.int v5), some (.long lc), none, some (.int v8), some (.int (if al_ (sp_end A.1 (aC A) A.2.1 pl) l A.2.1.1 = true then 1 else 0)), some (.int (nI k)), none, none, none], [], (hp_SH ++ dy, g2, r2))) : ∀ (m k : Nat) (g1 : Nat → Nat → Int32) (r1 : (Nat → Nat → Int64) × Nat × (Nat → Int32)), k + m = A.2.1.1 → r1.2 = r.2 → fr_ mz_ g g1 → nh_ (aC A) A.2.1.2.2.2 g1 → (∀ b, b < 6 → g1 67 b = pl_c (pl b)) → mm_W 75 M_Mo_chance 0 0 Q 0 0 (79, [some (.ref 52), some (.int v1), some (.int v2), some (.int v3), some (.int (nI l)), some (.int v5), some (.long lc), none, some (.int v8), some (.int (if al_ (sp_end A.1 (aC A) A.2.1 pl) l k = true then 1 else 0)), some (.int (nI k)), none, none, none], [], (hp_SH ++ dy, g1, r1)) := by
  obtain ⟨hL, hK, hPl, hX, hB, hS, hIm⟩ := hI
  have hR := dX_R hX
  have h4 := hL.2.1
  have h6 := hK.2.1
  intro m
  induction m with
  | zero =>
    intro k g1 r1 hk hr hF hnh h67
    have e14 : g1 52 14 = nI A.2.1.1 := by rw [nr_at (hF.nr mz_nr (rfl : nr_ g = nr_ g)) 52 14 rfl]; exact hK.1
    have h8 := hnx g1 r1 k hr hF hnh
    rw [← show k = A.2.1.1 by omega] at h8
    generalize (if al_ (sp_end A.1 (aC A) A.2.1 pl) l k = true then (1 : Int32) else 0) = hv at h8 ⊢
    refine mm_B ok_Mo_chance 43 3 (85, [some (.ref 52), some (.int v1), some (.int v2), some (.int v3), some (.int (nI l)), some (.int v5), some (.long lc), none, some (.int v8), some (.int hv), some (.int (nI k)), none, none, none], [.int (g1 52 14), .int (nI k)], (hp_SH ++ dy, g1, r1)) [] rfl trivial ?_
    rw [e14]
    refine mm_I ok_Mo_chance 46 0 85 [some (.ref 52), some (.int v1), some (.int v2), some (.int v3), some (.int (nI l)), some (.int v5), some (.long lc), none, some (.int v8), some (.int hv), some (.int (nI k)), none, none, none] [.int (nI A.2.1.1), .int (nI k)] (hp_SH ++ dy, g1, r1) [] rfl trivial rfl rfl (fun _ => ?_) (fun q => False.elim (q (nI_le (by omega) (by omega))))
    exact h8
  | succ m ih =>
    intro k g1 r1 hk hr hF hnh h67
    have hP1 := hF.nr mz_nr (rfl : nr_ g = nr_ g)
    obtain ⟨k1, k2, k3, k4, k5⟩ := hK.2.2 k (by omega)
    have e14 : g1 52 14 = nI A.2.1.1 := by rw [nr_at hP1 52 14 rfl]; exact hK.1
    have e59 : g1 59 (nI k).toNatClampNeg = nI (A.2.1.2.1 k) := by rw [nI_clamp (by omega), nr_at hP1 59 k rfl]; exact k1
    have e60 : g1 60 (nI k).toNatClampNeg = nI (A.2.1.2.2.1 k) := by rw [nI_clamp (by omega), nr_at hP1 60 k rfl]; exact k2
    have ih' := ih (k + 1)
    have hstep : al_ (sp_end A.1 (aC A) A.2.1 pl) l (k + 1) = (al_ (sp_end A.1 (aC A) A.2.1 pl) l k && (sp_end A.1 (aC A) A.2.1 pl k / 2 ^ l % 2 == 1)) := rfl
    refine mm_B ok_Mo_chance 43 3 (85, [some (.ref 52), some (.int v1), some (.int v2), some (.int v3), some (.int (nI l)), some (.int v5), some (.long lc), none, some (.int v8), some (.int (if al_ (sp_end A.1 (aC A) A.2.1 pl) l k = true then 1 else 0)), some (.int (nI k)), none, none, none], [.int (g1 52 14), .int (nI k)], (hp_SH ++ dy, g1, r1)) [] rfl trivial ?_
    rw [e14]
    refine mm_I ok_Mo_chance 46 0 85 [some (.ref 52), some (.int v1), some (.int v2), some (.int v3), some (.int (nI l)), some (.int v5), some (.long lc), none, some (.int v8), some (.int (if al_ (sp_end A.1 (aC A) A.2.1 pl) l k = true then 1 else 0)), some (.int (nI k)), none, none, none] [.int (nI A.2.1.1), .int (nI k)] (hp_SH ++ dy, g1, r1) [] rfl trivial rfl rfl (fun q => False.elim (nI_ge (show k < A.2.1.1 by omega) (by omega) q)) (fun _ => ?_)
    cases hal : al_ (sp_end A.1 (aC A) A.2.1 pl) l k with
    | false =>
      have hend : ∀ n, al_ (sp_end A.1 (aC A) A.2.1 pl) l (k + n) = false := fun n => by
        induction n with
        | zero => exact hal
        | succ n ihn =>
          show (al_ (sp_end A.1 (aC A) A.2.1 pl) l (k + n) && _) = false
          rw [ihn]; rfl
      have h8 := hnx g1 r1 k hr hF hnh
      rw [show al_ (sp_end A.1 (aC A) A.2.1 pl) l A.2.1.1 = false by have := hend (A.2.1.1 - k); rwa [show k + (A.2.1.1 - k) = A.2.1.1 by omega] at this] at h8
      refine mm_I ok_Mo_chance 47 1 90 [some (.ref 52), some (.int v1), some (.int v2), some (.int v3), some (.int (nI l)), some (.int v5), some (.long lc), none, some (.int v8), some (.int (if false = true then 1 else 0)), some (.int (nI k)), none, none, none] [.int (if false = true then 1 else 0)] (hp_SH ++ dy, g1, r1) [] rfl trivial rfl rfl (fun _ => ?_) (fun q => False.elim (q rfl))
      exact h8
    | true =>
      rw [hal, Bool.true_and] at hstep
      rw [hstep] at ih'
      refine mm_I ok_Mo_chance 47 1 90 [some (.ref 52), some (.int v1), some (.int v2), some (.int v3), some (.int (nI l)), some (.int v5), some (.long lc), none, some (.int v8), some (.int (if true = true then 1 else 0)), some (.int (nI k)), none, none, none] [.int (if true = true then 1 else 0)] (hp_SH ++ dy, g1, r1) [] rfl trivial rfl rfl (fun q => False.elim (absurd q (by decide))) (fun _ => ?_)
      refine mm_B ok_Mo_chance 49 10 (110, [some (.ref 52), some (.int v1), some (.int v2), some (.int v3), some (.int (nI l)), some (.int v5), some (.long lc), none, some (.int v8), some (.int (if true = true then 1 else 0)), some (.int (nI k)), none, none, none], [.int (g1 60 ((nI k).toNatClampNeg)), .int (g1 59 ((nI k).toNatClampNeg)), .int (nI k), .ref 52], (hp_SH ++ dy, g1, r1)) [vp_in (nI k) 6, vp_in (nI k) 6] rfl (show (vp_in (nI k) 6) ∧ (vp_in (nI k) 6) from ⟨(nI_vi (by omega) (by decide)), (nI_vi (by omega) (by decide))⟩) ?_
      rw [e59, e60]
      refine mm_cV (as := [.int (nI k), .int (nI (A.2.1.2.1 k)), .int (nI (A.2.1.2.2.1 k))]) (st := []) (q := 52) cw_Mo_spring lk_Mo_288 in_Mo_spring sl_Mo_spring rfl rfl (mm_at ok_Mo_chance (i := 59) rfl).1 (ct_Mo_spring dy g1 (nr_ g) r1 hP1 hR hL (ag := A.2.1.2.2.2) (c := k) (on := A.2.1.2.1 k) (off := A.2.1.2.2.1 k) (by omega) (by omega) (by omega) h67 hpo k5 hnh) (by decide) ⟨by omega, by omega⟩ (Nat.le_of_ble_eq_true rfl) (mm_vs_b (b := 77) rfl (hp_len dy)) (fun v h' hqq => ?_)
      obtain ⟨rfl, g3, r3, hqe, hr3, hF3, h364, hnh3, hrw, h68⟩ := hqq; rw [hqe]
      have hF4 := hF.tr (hF3.mono mz_mp)
      have h673 : ∀ b, b < 6 → g3 67 b = pl_c (pl b) := fun b hb => (hF3 67 b rfl).trans (h67 b hb)
      have hE : g3 68 5 = nI (sp_end A.1 (aC A) A.2.1 pl k) := h68 5 (by decide)
      have hlt : sp_end A.1 (aC A) A.2.1 pl k < 16 := sp_has_lt _ _ _ h4
      have h3 := Nat.mod_lt (sp_end A.1 (aC A) A.2.1 pl k / 2 ^ l) (show 0 < 2 by decide)
      refine mm_B ok_Mo_chance 60 9 (125, [some (.ref 52), some (.int v1), some (.int v2), some (.int v3), some (.int (nI l)), some (.int v5), some (.long lc), none, some (.int v8), some (.int (if true = true then 1 else 0)), some (.int (nI k)), none, none, none], [.int 1, .int (((g3 68 5) >>> ((nI l) &&& 31)) &&& 1)], (hp_SH ++ dy, g3, r3)) [vp_in 5 6] rfl (show vp_in 5 6 from (by first | exact mm_vi rfl | assumption | decide)) ?_
      rw [hE, bt_tst _ hlt l (by omega)]
      refine mm_I ok_Mo_chance 69 0 125 [some (.ref 52), some (.int v1), some (.int v2), some (.int v3), some (.int (nI l)), some (.int v5), some (.long lc), none, some (.int v8), some (.int (if true = true then 1 else 0)), some (.int (nI k)), none, none, none] [.int 1, .int (nI (sp_end A.1 (aC A) A.2.1 pl k / 2 ^ l % 2))] (hp_SH ++ dy, g3, r3) [] rfl trivial rfl rfl (fun hz => ?_) (fun hz => ?_)
      · rw [show (sp_end A.1 (aC A) A.2.1 pl k / 2 ^ l % 2 == 1) = false from beq_false_of_ne (fun e => hz (by rw [e]; rfl))] at ih'
        refine mm_B ok_Mo_chance 72 4 (79, [some (.ref 52), some (.int v1), some (.int v2), some (.int v3), some (.int (nI l)), some (.int v5), some (.long lc), none, some (.int v8), some (.int 0), some (.int ((nI k) + 1)), none, none, none], [], (hp_SH ++ dy, g3, r3)) [] rfl trivial ?_
        rw [nI_1]
        exact ih' g3 r3 (by omega) (hr3.trans hr) hF4 hnh3 h673
      · rw [show (sp_end A.1 (aC A) A.2.1 pl k / 2 ^ l % 2 == 1) = true from beq_iff_eq.mpr ((nI_eq (b := 1) (by omega) (by decide)).mp hz)] at ih'
        refine mm_B ok_Mo_chance 70 2 (133, [some (.ref 52), some (.int v1), some (.int v2), some (.int v3), some (.int (nI l)), some (.int v5), some (.long lc), none, some (.int v8), some (.int (if true = true then 1 else 0)), some (.int (nI k)), none, none, none], [.int 1], (hp_SH ++ dy, g3, r3)) [] rfl trivial ?_
        refine mm_B ok_Mo_chance 73 3 (79, [some (.ref 52), some (.int v1), some (.int v2), some (.int v3), some (.int (nI l)), some (.int v5), some (.long lc), none, some (.int v8), some (.int 1), some (.int ((nI k) + 1)), none, none, none], [], (hp_SH ++ dy, g3, r3)) [] rfl trivial ?_
        rw [nI_1]
        exact ih' g3 r3 (by omega) (hr3.trans hr) hF4 hnh3 h673
theorem mgc_go (dy : List mm_Sh) (g : Nat → Nat → Int32) (r : (Nat → Nat → Int64) × Nat × (Nat → Int32)) {Q : Option Value → mm_Hp → Prop} {v1 v2 v3 v4 v5 : Int32} {lc : Int64} {G : Nat} (hnx : ∀ v12, mm_W 75 M_Mo_chance 0 0 Q 0 0 (195, [some (.ref 52), some (.int v1), some (.int v2), some (.int v3), some (.int v4), some (.int v5), some (.long lc), none, some (.long (lN G)), none, some (.long (lN 0)), none, v12, none], [], (hp_SH ++ dy, g, r))) : ∀ (n b a : Nat) (v12 : Option Value), b < n → (v12 = none ∨ ∃ z, v12 = some (.long z)) → b < 1000 → a < 1000 → Nat.gcd a b = G → mm_W 75 M_Mo_chance 0 0 Q 0 0 (170, [some (.ref 52), some (.int v1), some (.int v2), some (.int v3), some (.int v4), some (.int v5), some (.long lc), none, some (.long (lN a)), none, some (.long (lN b)), none, none, none], [], (hp_SH ++ dy, g, r)) := by
  intro n
  induction n with
  | zero => intro b a v12 hb; omega
  | succ n ih =>
    intro b a v12 hb hv hb1 ha hG
    by_cases hb0 : b = 0
    · subst hb0
      rw [Nat.gcd_zero_right] at hG
      subst hG
      refine mm_I ok_Mo_chance 91 3 174 [some (.ref 52), some (.int v1), some (.int v2), some (.int v3), some (.int v4), some (.int v5), some (.long lc), none, some (.long (lN a)), none, some (.long (lN 0)), none, none, none] [.int (lg_cmp (lN 0) 0)] (hp_SH ++ dy, g, r) [] rfl trivial rfl rfl (fun _ => ?_) (fun q => False.elim (q rfl))
      exact hnx none
    · refine mm_I ok_Mo_chance 91 3 174 [some (.ref 52), some (.int v1), some (.int v2), some (.int v3), some (.int v4), some (.int v5), some (.long lc), none, some (.long (lN a)), none, some (.long (lN b)), none, none, none] [.int (lg_cmp (lN b) 0)] (hp_SH ++ dy, g, r) [] rfl trivial rfl rfl (fun q => False.elim (hb0 ((lN_eq (b := 0) (by omega) (by decide)).mp ((lg_cmp_eq _ _).mp q)))) (fun _ => ?_)
      refine mm_B ok_Mo_chance 95 9 (170, [some (.ref 52), some (.int v1), some (.int v2), some (.int v3), some (.int v4), some (.int v5), some (.long lc), none, some (.long (lN b)), none, some (.long ((lN a) - (lN a) / (lN b) * (lN b))), none, some (.long ((lN a) - (lN a) / (lN b) * (lN b))), none], [], (hp_SH ++ dy, g, r)) [¬ (lN b) = 0] rfl (show ¬ (lN b) = 0 from (fun e => hb0 ((lN_eq (b := 0) (by omega) (by decide)).mp e))) ?_
      rw [lN_mod (by omega) (by omega)]
      refine mm_fg [12, 13] ?_
      have hm := Nat.mod_lt a (show 0 < b by omega)
      exact ih (a % b) b none (by omega) (Or.inl rfl) (by omega) hb1 (by rw [← hG, Nat.gcd_comm b, ← Nat.gcd_rec, Nat.gcd_comm])
theorem mch_go (dy : List mm_Sh) (g : Nat → Nat → Int32) (r : (Nat → Nat → Int64) × Nat × (Nat → Int32)) {A : sA} (hI : MI (nr_ g) A) (hSI : SI A) {n w l p : Nat} {s : Int32} (hn1 : 0 < n) (hn : n ≤ 20) (hl : l < A.1.1) (hp : p < 2) (x : Int64) (hx : x = (if p = 0 then lN (lk_ A s (nI w) l n / Nat.gcd (lk_ A s (nI w) l n) n) else lN (n / Nat.gcd (lk_ A s (nI w) l n) n))) : ∀ (m k : Nat) (g1 : Nat → Nat → Int32) (r1 : (Nat → Nat → Int64) × Nat × (Nat → Int32)), k + m = n → r1.2 = r.2 → fr_ mz_ g g1 → nh_ (aC A) A.2.1.2.2.2 g1 → mm_W 75 M_Mo_chance 0 0 (RM dy g r A (.long x)) 0 0 (58, [some (.ref 52), some (.int s), some (.int (nI n)), some (.int (nI w)), some (.int (nI l)), some (.int (nI p)), some (.long (lN (lk_ A s (nI w) l k))), none, some (.int (nI k)), none, none, none, none, none], [], (hp_SH ++ dy, g1, r1)) := by
  have hI' := hI
  obtain ⟨hL, hK, hPl, hX, hB, hS, hIm⟩ := hI'
  have hR := dX_R hX
  have h4 := hL.2.1
  have h6 := hK.2.1
  have e10 : g 52 10 = nI A.1.1 := by rw [← nr_eq g (k := 52) (j := 10) rfl]; exact hL.1
  have e14 : g 52 14 = nI A.2.1.1 := by rw [← nr_eq g (k := 52) (j := 14) rfl]; exact hK.1
  have hpl : ∀ b, b < 6 → g 62 b = pl_c (A.2.2.1.1 b) := fun b hb => by rw [← nr_eq g (k := 62) (j := b) rfl]; exact (hPl b hb).1
  have hot : ∀ b, b < 6 → g 62 (6 + b) = pl_c (A.2.2.1.2 b) := fun b hb => by rw [← nr_eq g (k := 62) (j := 6 + b) rfl]; exact (hPl b hb).2
  have hpo : ∀ b l, b < 6 → A.2.2.1.1 b = some l → l < A.1.1 := fun b l hb h => hSI.1 b l hb (Or.inl h)
  intro m
  induction m with
  | zero =>
    intro k g1 r1 hk hr hF hnh
    rw [show k = n by omega]
    have hlk := lk_le (A := A) (s := s) (w := nI w) (l := l) n
    generalize hst : lk_ A s (nI w) l n = a at hlk hx ⊢
    have hg0 : 0 < Nat.gcd a n := Nat.gcd_pos_of_pos_right a hn1
    have hgn : Nat.gcd a n ≤ n := Nat.gcd_le_right a hn1
    refine mm_I ok_Mo_chance 30 2 61 [some (.ref 52), some (.int s), some (.int (nI n)), some (.int (nI w)), some (.int (nI l)), some (.int (nI p)), some (.long (lN a)), none, some (.int (nI n)), none, none, none, none, none] [.int (nI n), .int (nI n)] (hp_SH ++ dy, g1, r1) [] rfl trivial rfl rfl (fun _ => ?_) (fun q => False.elim (q (nI_le (Nat.le_refl n) (by omega))))
    refine mm_B ok_Mo_chance 86 5 (170, [some (.ref 52), some (.int s), some (.int (nI n)), some (.int (nI w)), some (.int (nI l)), some (.int (nI p)), some (.long (lN a)), none, some (.long (lN a)), none, some (.long ((nI n)).toInt64), none, none, none], [], (hp_SH ++ dy, g1, r1)) [] rfl trivial ?_
    rw [nI_l (by omega)]
    refine mgc_go dy g1 r1 (G := Nat.gcd a n) (fun v12 => ?_) (n + 1) n a none (by omega) (Or.inl rfl) (by omega) (by omega) rfl
    refine mm_fg [12] ?_
    by_cases hp0 : p = 0
    · subst hp0
      rw [if_pos rfl] at hx
      rw [hx]
      refine mm_I ok_Mo_chance 104 1 197 [some (.ref 52), some (.int s), some (.int (nI n)), some (.int (nI w)), some (.int (nI l)), some (.int (nI 0)), some (.long (lN a)), none, some (.long (lN (Nat.gcd a n))), none, some (.long (lN 0)), none, none, none] [.int (nI 0)] (hp_SH ++ dy, g1, r1) [] rfl trivial rfl rfl (fun q => False.elim (q rfl)) (fun _ => ?_)
      refine mm_B ok_Mo_chance 106 4 (213, [some (.ref 52), some (.int s), some (.int (nI n)), some (.int (nI w)), some (.int (nI l)), some (.int (nI 0)), some (.long (lN a)), none, some (.long (lN (Nat.gcd a n))), none, some (.long (lN 0)), none, none, none], [.long ((lN a) / (lN (Nat.gcd a n)))], (hp_SH ++ dy, g1, r1)) [¬ (lN (Nat.gcd a n)) = 0] rfl (show ¬ (lN (Nat.gcd a n)) = 0 from (fun e => absurd ((lN_eq (b := 0) (by omega) (by decide)).mp e) (by omega))) ?_
      rw [lN_div (by omega) (by omega)]
      exact mm_rl rfl (mm_at ok_Mo_chance (i := 114) rfl).1 ⟨Nat.le_refl _, Nat.le_refl _⟩ (RM_q hr hI (hF.mono dz_mz))
    · rw [if_neg hp0] at hx
      rw [hx]
      refine mm_I ok_Mo_chance 104 1 197 [some (.ref 52), some (.int s), some (.int (nI n)), some (.int (nI w)), some (.int (nI l)), some (.int (nI p)), some (.long (lN a)), none, some (.long (lN (Nat.gcd a n))), none, some (.long (lN 0)), none, none, none] [.int (nI p)] (hp_SH ++ dy, g1, r1) [] rfl trivial rfl rfl (fun _ => ?_) (fun q => False.elim (nI_ne0 (by omega) (by omega) q))
      refine mm_B ok_Mo_chance 110 4 (213, [some (.ref 52), some (.int s), some (.int (nI n)), some (.int (nI w)), some (.int (nI l)), some (.int (nI p)), some (.long (lN a)), none, some (.long (lN (Nat.gcd a n))), none, some (.long (lN 0)), none, none, none], [.long (((nI n)).toInt64 / (lN (Nat.gcd a n)))], (hp_SH ++ dy, g1, r1)) [¬ (lN (Nat.gcd a n)) = 0] rfl (show ¬ (lN (Nat.gcd a n)) = 0 from (fun e => absurd ((lN_eq (b := 0) (by omega) (by decide)).mp e) (by omega))) ?_
      rw [nI_l (by omega), lN_div (by omega) (by omega)]
      exact mm_rl rfl (mm_at ok_Mo_chance (i := 114) rfl).1 ⟨Nat.le_refl _, Nat.le_refl _⟩ (RM_q hr hI (hF.mono dz_mz))
  | succ m ih =>
    intro k g1 r1 hk hr hF hnh
    have ih' := ih (k + 1)
    rw [show lk_ A s (nI w) l (k + 1) = (if sp_sum (sp_whb A.1 (aC A) A.2.1 (dr_ A.2.2.1.1 (s + nI k) (nI w)) l) A.2.1.1 = 2 ^ A.2.1.1 - 1 then lk_ A s (nI w) l k + 1 else lk_ A s (nI w) l k) from rfl] at ih'
    generalize hst : lk_ A s (nI w) l k = a at ih' ⊢
    have hP1 := hF.nr mz_nr (rfl : nr_ g = nr_ g)
    refine mm_I ok_Mo_chance 30 2 61 [some (.ref 52), some (.int s), some (.int (nI n)), some (.int (nI w)), some (.int (nI l)), some (.int (nI p)), some (.long (lN a)), none, some (.int (nI k)), none, none, none, none, none] [.int (nI n), .int (nI k)] (hp_SH ++ dy, g1, r1) [] rfl trivial rfl rfl (fun q => False.elim (nI_ge (show k < n by omega) (by omega) q)) (fun _ => ?_)
    refine mm_B ok_Mo_chance 33 5 (70, [some (.ref 52), some (.int s), some (.int (nI n)), some (.int (nI w)), some (.int (nI l)), some (.int (nI p)), some (.long (lN a)), none, some (.int (nI k)), none, none, none, none, none], [.int (nI w), .int (s + (nI k)), .ref 52], (hp_SH ++ dy, g1, r1)) [] rfl trivial ?_
    refine mm_cV (as := [.int (s + (nI k)), .int (nI w)]) (st := []) (q := 52) cw_Mo_floods lk_Mo_336 in_Mo_floods sl_Mo_floods rfl rfl (mm_at ok_Mo_chance (i := 38) rfl).1 (ct_Mo_floods dy g1 r1 (pl := A.2.2.1.1) (fun b hb => by rw [nr_at hP1 62 b rfl]; exact (hPl b hb).1) (s + nI k) (nI w)) (by decide) ⟨by omega, by omega⟩ (Nat.le_of_ble_eq_true rfl) (mm_vs_b (b := 77) rfl (hp_len dy)) (fun v h' hqq => ?_)
    obtain ⟨rfl, g2, hqe, hF2, h67⟩ := hqq; rw [hqe]
    have hF3 : fr_ mz_ g g2 := hF.tr (hF2.mono mz_67)
    refine mm_B ok_Mo_chance 39 4 (79, [some (.ref 52), some (.int s), some (.int (nI n)), some (.int (nI w)), some (.int (nI l)), some (.int (nI p)), some (.long (lN a)), none, some (.int (nI k)), some (.int 1), some (.int 0), none, none, none], [], (hp_SH ++ dy, g2, r1)) [] rfl trivial ?_
    refine mal_in dy g r hI hl (pl := dr_ A.2.2.1.1 (s + nI k) (nI w)) (fun b l hb h => hpo b l hb (dr_le h)) (fun g3 r3 k3 hr3 hF4 hnh3 => ?_) A.2.1.1 0 g2 r1 (Nat.zero_add _) hr hF3 (nh_fr hnh (fun i => hF2 63 i rfl)) h67
    by_cases hal : al_ (sp_end A.1 (aC A) A.2.1 (dr_ A.2.2.1.1 (s + nI k) (nI w))) l A.2.1.1 = true
    · rw [if_pos ((al_sum _).mpr hal)] at ih'
      rw [if_pos hal]
      refine mm_I ok_Mo_chance 76 2 145 [some (.ref 52), some (.int s), some (.int (nI n)), some (.int (nI w)), some (.int (nI l)), some (.int (nI p)), some (.long (lN a)), none, some (.int (nI k)), some (.int 1), some (.int (nI k3)), none, none, none] [.int 1, .long (lN a)] (hp_SH ++ dy, g3, r3) [] rfl trivial rfl rfl (fun q => False.elim (absurd q (by decide))) (fun _ => ?_)
      refine mm_B ok_Mo_chance 79 2 (153, [some (.ref 52), some (.int s), some (.int (nI n)), some (.int (nI w)), some (.int (nI l)), some (.int (nI p)), some (.long (lN a)), none, some (.int (nI k)), some (.int 1), some (.int (nI k3)), none, none, none], [.long 1, .long (lN a)], (hp_SH ++ dy, g3, r3)) [] rfl trivial ?_
      refine mm_B ok_Mo_chance 82 4 (58, [some (.ref 52), some (.int s), some (.int (nI n)), some (.int (nI w)), some (.int (nI l)), some (.int (nI p)), some (.long ((lN a) + 1)), none, some (.int ((nI k) + 1)), some (.int 1), some (.int (nI k3)), none, none, none], [], (hp_SH ++ dy, g3, r3)) [] rfl trivial ?_
      refine mm_fg [9, 10] ?_
      rw [nI_1, lN_1]
      exact ih' g3 r3 (by omega) hr3 hF4 hnh3
    · rw [if_neg (fun q => hal ((al_sum _).mp q))] at ih'
      rw [if_neg hal]
      refine mm_I ok_Mo_chance 76 2 145 [some (.ref 52), some (.int s), some (.int (nI n)), some (.int (nI w)), some (.int (nI l)), some (.int (nI p)), some (.long (lN a)), none, some (.int (nI k)), some (.int 0), some (.int (nI k3)), none, none, none] [.int 0, .long (lN a)] (hp_SH ++ dy, g3, r3) [] rfl trivial rfl rfl (fun _ => ?_) (fun q => False.elim (q rfl))
      refine mm_B ok_Mo_chance 81 5 (58, [some (.ref 52), some (.int s), some (.int (nI n)), some (.int (nI w)), some (.int (nI l)), some (.int (nI p)), some (.long ((lN a) + 0)), none, some (.int ((nI k) + 1)), some (.int 0), some (.int (nI k3)), none, none, none], [], (hp_SH ++ dy, g3, r3)) [] rfl trivial ?_
      refine mm_fg [9, 10] ?_
      rw [nI_1, show lN a + 0 = lN (a + 0) from lN_add a 0]
      exact ih' g3 r3 (by omega) hr3 hF4 hnh3
theorem cm_chance (dy : List mm_Sh) (g : Nat → Nat → Int32) (r : (Nat → Nat → Int64) × Nat × (Nat → Int32)) {A : sA} (hI : MI (nr_ g) A) (hSI : SI A) (s n w l p : Int32) : mm_Ct 75 M_Mo_chance [.ref 52, .int s, .int n, .int w, .int l, .int p] (hp_SH ++ dy, g, r) 0 0 (RM dy g r A (.long (an_chance A s n w l p))) := by
  have hI' := hI
  obtain ⟨hL, hK, hPl, hX, hB, hS, hIm⟩ := hI'
  have hR := dX_R hX
  have h4 := hL.2.1
  have h6 := hK.2.1
  have e10 : g 52 10 = nI A.1.1 := by rw [← nr_eq g (k := 52) (j := 10) rfl]; exact hL.1
  have e14 : g 52 14 = nI A.2.1.1 := by rw [← nr_eq g (k := 52) (j := 14) rfl]; exact hK.1
  have hpl : ∀ b, b < 6 → g 62 b = pl_c (A.2.2.1.1 b) := fun b hb => by rw [← nr_eq g (k := 62) (j := b) rfl]; exact (hPl b hb).1
  have hot : ∀ b, b < 6 → g 62 (6 + b) = pl_c (A.2.2.1.2 b) := fun b hb => by rw [← nr_eq g (k := 62) (j := 6 + b) rfl]; exact (hPl b hb).2
  have hpo : ∀ b l, b < 6 → A.2.2.1.1 b = some l → l < A.1.1 := fun b l hb h => hSI.1 b l hb (Or.inl h)
  refine mm_start pl_Mo (Nat.le_of_ble_eq_true rfl) ?_
  refine mm_B ok_Mo_chance 0 4 (6, [some (.ref 52), some (.int s), some (.int n), some (.int w), some (.int l), some (.int p), none, none, none, none, none, none, none, none], [.long 20, .long 1, .long (n).toInt64], (hp_SH ++ dy, g, r)) [] rfl trivial ?_
  refine mm_cS (as := [.long (n).toInt64, .long 1, .long 20]) (st := []) cw_Mo_in lk_Mo_100 sx_Mo_in (mm_at ok_Mo_chance (i := 4) rfl).1 (ct_Mo_in (hp_SH ++ dy, g, r) n.toInt64 1 20) (by decide) ⟨by omega, by omega⟩ (Nat.le_of_ble_eq_true rfl) (mm_vs_b (b := 77) rfl (hp_len dy)) (fun v h' hqq => ?_)
  obtain ⟨rfl, hqe⟩ := hqq; rw [hqe]
  rw [in_nk n]
  cases hx1 : nk_ n with
  | none =>
    rw [show an_chance A s n w l p = -4611686018427387904 by unfold an_chance; rw [hx1]]
    refine mm_I ok_Mo_chance 5 0 9 [some (.ref 52), some (.int s), some (.int n), some (.int w), some (.int l), some (.int p), none, none, none, none, none, none, none, none] [.int (iz_ none)] (hp_SH ++ dy, g, r) [] rfl trivial rfl rfl (fun _ => ?_) (fun q => False.elim (q rfl))
    refine mm_B ok_Mo_chance 22 1 (47, [some (.ref 52), some (.int s), some (.int n), some (.int w), some (.int l), some (.int p), none, none, none, none, none, none, none, none], [.long (-4611686018427387904)], (hp_SH ++ dy, g, r)) [] rfl trivial ?_
    exact mm_rl rfl (mm_at ok_Mo_chance (i := 23) rfl).1 ⟨Nat.le_refl _, Nat.le_refl _⟩ (RM_q rfl hI fr_.rf)
  | some nn =>
    obtain ⟨hn1, hn2, rfl, hn3⟩ := nk_some hx1
    refine mm_I ok_Mo_chance 5 0 9 [some (.ref 52), some (.int s), some (.int (nI nn)), some (.int w), some (.int l), some (.int p), none, none, none, none, none, none, none, none] [.int (iz_ (some nn))] (hp_SH ++ dy, g, r) [] rfl trivial rfl rfl (fun q => False.elim (one0 q)) (fun _ => ?_)
    refine mm_B ok_Mo_chance 6 4 (18, [some (.ref 52), some (.int s), some (.int (nI nn)), some (.int w), some (.int l), some (.int p), none, none, none, none, none, none, none, none], [.long 10, .long 0, .long (w).toInt64], (hp_SH ++ dy, g, r)) [] rfl trivial ?_
    refine mm_cS (as := [.long (w).toInt64, .long 0, .long 10]) (st := []) cw_Mo_in lk_Mo_100 sx_Mo_in (mm_at ok_Mo_chance (i := 10) rfl).1 (ct_Mo_in (hp_SH ++ dy, g, r) w.toInt64 0 10) (by decide) ⟨by omega, by omega⟩ (Nat.le_of_ble_eq_true rfl) (mm_vs_b (b := 77) rfl (hp_len dy)) (fun v h' hqq => ?_)
    obtain ⟨rfl, hqe⟩ := hqq; rw [hqe]
    rw [in_11 w]
    cases hx2 : ix_ 11 w with
    | none =>
      rw [show an_chance A s (nI nn) w l p = -4611686018427387904 by unfold an_chance; rw [hx1, hx2]]
      refine mm_I ok_Mo_chance 11 0 21 [some (.ref 52), some (.int s), some (.int (nI nn)), some (.int w), some (.int l), some (.int p), none, none, none, none, none, none, none, none] [.int (iz_ none)] (hp_SH ++ dy, g, r) [] rfl trivial rfl rfl (fun _ => ?_) (fun q => False.elim (q rfl))
      refine mm_B ok_Mo_chance 22 1 (47, [some (.ref 52), some (.int s), some (.int (nI nn)), some (.int w), some (.int l), some (.int p), none, none, none, none, none, none, none, none], [.long (-4611686018427387904)], (hp_SH ++ dy, g, r)) [] rfl trivial ?_
      exact mm_rl rfl (mm_at ok_Mo_chance (i := 23) rfl).1 ⟨Nat.le_refl _, Nat.le_refl _⟩ (RM_q rfl hI fr_.rf)
    | some ww =>
      obtain ⟨hw, rfl⟩ := ix_some (by decide) hx2
      refine mm_I ok_Mo_chance 11 0 21 [some (.ref 52), some (.int s), some (.int (nI nn)), some (.int (nI ww)), some (.int l), some (.int p), none, none, none, none, none, none, none, none] [.int (iz_ (some ww))] (hp_SH ++ dy, g, r) [] rfl trivial rfl rfl (fun q => False.elim (one0 q)) (fun _ => ?_)
      refine mm_B ok_Mo_chance 12 2 (27, [some (.ref 52), some (.int s), some (.int (nI nn)), some (.int (nI ww)), some (.int l), some (.int p), none, none, none, none, none, none, none, none], [.int l, .ref 52], (hp_SH ++ dy, g, r)) [] rfl trivial ?_
      refine mm_cV (as := [.int l]) (st := []) (q := 52) cw_Mo_isLesson lk_Mo_117 in_Mo_isLesson sl_Mo_isLesson rfl rfl (mm_at ok_Mo_chance (i := 14) rfl).1 (ct_Mo_isLesson dy g r l) (by decide) ⟨by omega, by omega⟩ (Nat.le_of_ble_eq_true rfl) (mm_vs_b (b := 77) rfl (hp_len dy)) (fun v h' hqq => ?_)
      obtain ⟨rfl, hqe⟩ := hqq; rw [hqe]
      rw [ml_x (by omega) e10 l]
      cases hx3 : ix_ A.1.1 l with
      | none =>
        rw [show an_chance A s (nI nn) (nI ww) l p = -4611686018427387904 by unfold an_chance; rw [hx1, hx2, hx3]]
        refine mm_I ok_Mo_chance 15 0 30 [some (.ref 52), some (.int s), some (.int (nI nn)), some (.int (nI ww)), some (.int l), some (.int p), none, none, none, none, none, none, none, none] [.int (iz_ none)] (hp_SH ++ dy, g, r) [] rfl trivial rfl rfl (fun _ => ?_) (fun q => False.elim (q rfl))
        refine mm_B ok_Mo_chance 22 1 (47, [some (.ref 52), some (.int s), some (.int (nI nn)), some (.int (nI ww)), some (.int l), some (.int p), none, none, none, none, none, none, none, none], [.long (-4611686018427387904)], (hp_SH ++ dy, g, r)) [] rfl trivial ?_
        exact mm_rl rfl (mm_at ok_Mo_chance (i := 23) rfl).1 ⟨Nat.le_refl _, Nat.le_refl _⟩ (RM_q rfl hI fr_.rf)
      | some ll =>
        obtain ⟨hl, rfl⟩ := ix_some (by omega) hx3
        refine mm_I ok_Mo_chance 15 0 30 [some (.ref 52), some (.int s), some (.int (nI nn)), some (.int (nI ww)), some (.int (nI ll)), some (.int p), none, none, none, none, none, none, none, none] [.int (iz_ (some ll))] (hp_SH ++ dy, g, r) [] rfl trivial rfl rfl (fun q => False.elim (one0 q)) (fun _ => ?_)
        refine mm_B ok_Mo_chance 16 4 (38, [some (.ref 52), some (.int s), some (.int (nI nn)), some (.int (nI ww)), some (.int (nI ll)), some (.int p), none, none, none, none, none, none, none, none], [.long 1, .long 0, .long (p).toInt64], (hp_SH ++ dy, g, r)) [] rfl trivial ?_
        refine mm_cS (as := [.long (p).toInt64, .long 0, .long 1]) (st := []) cw_Mo_in lk_Mo_100 sx_Mo_in (mm_at ok_Mo_chance (i := 20) rfl).1 (ct_Mo_in (hp_SH ++ dy, g, r) p.toInt64 0 1) (by decide) ⟨by omega, by omega⟩ (Nat.le_of_ble_eq_true rfl) (mm_vs_b (b := 77) rfl (hp_len dy)) (fun v h' hqq => ?_)
        obtain ⟨rfl, hqe⟩ := hqq; rw [hqe]
        rw [in_2 p]
        cases hx4 : ix_ 2 p with
        | none =>
          rw [show an_chance A s (nI nn) (nI ww) (nI ll) p = -4611686018427387904 by unfold an_chance; rw [hx1, hx2, hx3, hx4]]
          refine mm_I ok_Mo_chance 21 0 41 [some (.ref 52), some (.int s), some (.int (nI nn)), some (.int (nI ww)), some (.int (nI ll)), some (.int p), none, none, none, none, none, none, none, none] [.int (iz_ none)] (hp_SH ++ dy, g, r) [] rfl trivial rfl rfl (fun q => False.elim (q rfl)) (fun _ => ?_)
          refine mm_B ok_Mo_chance 22 1 (47, [some (.ref 52), some (.int s), some (.int (nI nn)), some (.int (nI ww)), some (.int (nI ll)), some (.int p), none, none, none, none, none, none, none, none], [.long (-4611686018427387904)], (hp_SH ++ dy, g, r)) [] rfl trivial ?_
          exact mm_rl rfl (mm_at ok_Mo_chance (i := 23) rfl).1 ⟨Nat.le_refl _, Nat.le_refl _⟩ (RM_q rfl hI fr_.rf)
        | some pp =>
          obtain ⟨hp, rfl⟩ := ix_some (by decide) hx4
          rw [show an_chance A s (nI nn) (nI ww) (nI ll) (nI pp) = (if pp = 0 then lN (lk_ A s (nI ww) ll nn / Nat.gcd (lk_ A s (nI ww) ll nn) nn) else lN (nn / Nat.gcd (lk_ A s (nI ww) ll nn) nn)) by unfold an_chance; rw [hx1, hx2, hx3, hx4]]
          refine mm_I ok_Mo_chance 21 0 41 [some (.ref 52), some (.int s), some (.int (nI nn)), some (.int (nI ww)), some (.int (nI ll)), some (.int (nI pp)), none, none, none, none, none, none, none, none] [.int (iz_ (some pp))] (hp_SH ++ dy, g, r) [] rfl trivial rfl rfl (fun _ => ?_) (fun q => False.elim (one0 q))
          refine mm_B ok_Mo_chance 24 1 (49, [some (.ref 52), some (.int s), some (.int (nI nn)), some (.int (nI ww)), some (.int (nI ll)), some (.int (nI pp)), none, none, none, none, none, none, none, none], [.ref 52], (hp_SH ++ dy, g, r)) [] rfl trivial ?_
          refine mm_cV (as := []) (st := []) (q := 52) cw_Mo_forgets lk_Mo_298 in_Mo_forgets sl_Mo_forgets rfl rfl (mm_at ok_Mo_chance (i := 25) rfl).1 (ct_Mo_forgets dy g r) (by decide) ⟨by omega, by omega⟩ (Nat.le_of_ble_eq_true rfl) (mm_vs_b (b := 77) rfl (hp_len dy)) (fun v h' hqq => ?_)
          obtain ⟨rfl, g1, hqe, hF1, h63, h64⟩ := hqq; rw [hqe]
          have hnh : nh_ (aC A) A.2.1.2.2.2 g1 := fun i hi => Or.inl (h63 i hi)
          have hnw : nw_ (aC A) A.2.1.2.2.2 g1 := fun i hi => Or.inl (h64 i hi)
          refine mm_B ok_Mo_chance 26 4 (58, [some (.ref 52), some (.int s), some (.int (nI nn)), some (.int (nI ww)), some (.int (nI ll)), some (.int (nI pp)), some (.long 0), none, some (.int 0), none, none, none, none, none], [], (hp_SH ++ dy, g1, r)) [] rfl trivial ?_
          exact mch_go dy g r hI hSI hn1 hn2 hl hp _ rfl nn 0 g1 r (Nat.zero_add _) rfl (hF1.mono mz_mu) hnh

