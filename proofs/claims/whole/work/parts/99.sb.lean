/-! ===== calls that change the state: copy ===== -/
abbrev st_ (f n : Int32) (S : Nat) : Prop := ¬ f < 0 ∧ ¬ n < 0 ∧ f.toNatClampNeg + n.toNatClampNeg ≤ S
theorem sb_lt {S n i : Nat} (hS : S ≤ 40) (hn : n < 2 ^ 31) (hi : i < 2 ^ 31) : nI S - nI n < nI i ↔ S < i + n := by
  rw [Int32.lt_iff_toInt_lt, Int32.toInt_sub, nI_toInt (by omega), nI_toInt hn, nI_toInt hi, Int.bmod_eq_of_le (by omega) (by omega)]
  omega
theorem is_ok {S : Nat} (hS : S ≤ 40) (f n : Int32) : f_Sc_isStretch f n (nI S) = if st_ f n S then 1 else 0 := by
  unfold f_Sc_isStretch
  by_cases h1 : f < 0
  · rw [if_pos h1, if_neg (fun h => h.1 h1)]
  · rw [if_neg h1]
    by_cases h2 : n < 0
    · rw [if_pos h2, if_neg (fun h => h.2.1 h2)]
    · rw [if_neg h2]
      obtain ⟨i, hi, rfl⟩ := nI_of h1
      obtain ⟨m, hm, rfl⟩ := nI_of h2
      have e : st_ (nI i) (nI m) S ↔ i + m ≤ S := by
        unfold st_
        rw [nI_clamp hi, nI_clamp hm]
        exact ⟨fun h => h.2.2, fun h => ⟨h1, h2, h⟩⟩
      by_cases h3 : nI S < nI m
      · rw [if_pos h3, if_neg (fun h => by have := e.mp h; have := (nI_ltI (by omega) hm).mp h3; omega)]
      · rw [if_neg h3]
        by_cases h4 : nI S - nI m < nI i
        · rw [if_pos h4, if_neg (fun h => by have := e.mp h; have := (sb_lt hS hm hi).mp h4; omega)]
        · rw [if_neg h4, if_pos (e.mpr (by have := mt (sb_lt hS hm hi).mpr h4; omega))]
theorem st_nI {f n : Int32} {S : Nat} (hS : S ≤ 40) (h : st_ f n S) : ∃ i m : Nat, f = nI i ∧ n = nI m ∧ i + m ≤ S := by
  obtain ⟨h1, h2, h3⟩ := h
  obtain ⟨i, hi, rfl⟩ := nI_of h1
  obtain ⟨m, hm, rfl⟩ := nI_of h2
  rw [nI_clamp hi, nI_clamp hm] at h3
  exact ⟨i, m, rfl, rfl, h3⟩
theorem st_mk {i m S : Nat} (hS : S ≤ 40) (h : i + m ≤ S) : st_ (nI i) (nI m) S := by
  refine ⟨nI_pos (by omega), nI_pos (by omega), ?_⟩
  rw [nI_clamp (by omega), nI_clamp (by omega)]
  exact h
theorem st_e {i m S : Nat} (hi : i < 2 ^ 31) (hm : m < 2 ^ 31) : st_ (nI i) (nI m) S ↔ i + m ≤ S := by
  unfold st_
  rw [nI_clamp hi, nI_clamp hm]
  exact ⟨fun h => h.2.2, fun h => ⟨nI_pos hi, nI_pos hm, h⟩⟩
/-- the items behind a copy -/
def cpv (f h : Nat → Int32) (i j n : Nat) : Nat → Int32 := fun x => if j ≤ x ∧ x < j + n then f (i + (x - j)) else h x
def an_copy (A : sA) (s i o j n : Int32) : Int32 × sA := match ix_ 4 s, ix_ 4 o with
  | some k, some l => (match A.2.2.2.2.2.1 k, A.2.2.2.2.2.1 l with
    | some p, some q => if p.1 = q.1 then (if st_ i n p.2.1 ∧ st_ j n q.2.1 then (n, nx_sh A l (some (q.1, q.2.1, cpv p.2.2 q.2.2 i.toNatClampNeg j.toNatClampNeg n.toNatClampNeg))) else (-12, A)) else (-13, A)
    | _, _ => (-11, A))
  | _, _ => (-2, A)
theorem an_cp {A : sA} {k l : Nat} (hk : k < 4) (hl : l < 4) {p q : Nat × Nat × (Nat → Int32)} (hp : A.2.2.2.2.2.1 k = some p) (hq : A.2.2.2.2.2.1 l = some q) (i j n : Int32) : an_copy A (nI k) i (nI l) j n = if p.1 = q.1 then (if st_ i n p.2.1 ∧ st_ j n q.2.1 then (n, nx_sh A l (some (q.1, q.2.1, cpv p.2.2 q.2.2 i.toNatClampNeg j.toNatClampNeg n.toNatClampNeg))) else (-12, A)) else (-13, A) := by
  unfold an_copy
  rw [ix_at hk (by decide), ix_at hl (by decide)]
  show (match A.2.2.2.2.2.1 k, A.2.2.2.2.2.1 l with | some p, some q => _ | _, _ => _) = _
  rw [hp, hq]
theorem an_cp1 {A : sA} {k l : Nat} (hk : k < 4) (hl : l < 4) (h : A.2.2.2.2.2.1 k = none ∨ A.2.2.2.2.2.1 l = none) (i j n : Int32) : an_copy A (nI k) i (nI l) j n = (-11, A) := by
  unfold an_copy
  rw [ix_at hk (by decide), ix_at hl (by decide)]
  show (match A.2.2.2.2.2.1 k, A.2.2.2.2.2.1 l with | some p, some q => _ | _, _ => _) = _
  rcases h with h | h
  · rw [h]
  · rw [h]
    cases A.2.2.2.2.2.1 k <;> rfl
theorem cs1_at {g : Nat → Nat → Int32} {k : Nat} {v : sV} (h : cs1 g k v) : (v = none ∧ g 51 k = -1) ∨ ∃ p, v = some p ∧ g 51 k = nI p.1 ∧ p.1 < 3 ∧ g 50 k = nI p.2.1 ∧ p.2.1 ≤ 40 ∧ ∀ i, i < p.2.1 → g (46 + k) i = p.2.2 i := by
  cases v with
  | none => exact Or.inl ⟨rfl, h⟩
  | some p => exact Or.inr ⟨p, rfl, h⟩
theorem ds1_at {g : Nat → Nat → Int32} {k : Nat} {v : sV} (h : ds1 g k v) : (v = none ∧ g 73 k = 0) ∨ ∃ p, v = some p ∧ g 73 k = 1 ∧ g 74 k = nI p.1 ∧ p.1 < 3 ∧ g 75 k = nI p.2.1 ∧ p.2.1 ≤ 40 ∧ ∀ i, i < p.2.1 → g 76 (40 * k + i) = p.2.2 i := by
  cases v with
  | none => exact Or.inl ⟨rfl, h⟩
  | some p => exact Or.inr ⟨p, rfl, h⟩
theorem cc_copy (dy : List mm_Sh) (g : Nat → Nat → Int32) (r : (Nat → Nat → Int64) × Nat × (Nat → Int32)) {A : sA} (hI : CI dy (nr_ g) A) (hSI : SI A) (s i o j n : Int32) : mm_Ct 12 M_Sc_copy [.ref 0, .int s, .int i, .int o, .int j, .int n] (hp_SH ++ dy, g, r) 0 0 (RC dy g r (an_copy A s i o j n).2 (.int (an_copy A s i o j n).1)) := by
  have hI' := hI
  obtain ⟨hL, hK, hPl, hX, hB, hS, hIm, hFd, hW⟩ := hI'
  have hR := cX_R hX
  have h4 := hL.2.1
  have h16 := p2_16 h4
  have h6 := hK.2.1
  have e20 : g 2 0 = nI A.1.1 := by rw [← nr_eq g (k := 2) (j := 0) rfl]; exact hL.1
  have e21 : g 2 1 = nI A.2.1.1 := by rw [← nr_eq g (k := 2) (j := 1) rfl]; exact hK.1
  have hpa : (hp_SH ++ dy)[9]? = some (.inl (0, 6)) := (hp_at dy (by decide)).trans rfl
  have hpl : ∀ b, b < 6 → g 9 b = pl_c (A.2.2.1.1 b) := fun b hb => by rw [← nr_eq g (k := 9) (j := b) rfl]; exact (hPl b hb).1
  have hot : ∀ b, b < 6 → g 10 b = pl_c (A.2.2.1.2 b) := fun b hb => by rw [← nr_eq g (k := 10) (j := b) rfl]; exact (hPl b hb).2
  have hpo : ∀ b l, b < 6 → A.2.2.1.1 b = some l → l < A.1.1 := fun b l hb h => hSI.1 b l hb (Or.inl h)
  refine mm_start pl_Sc (Nat.le_of_ble_eq_true rfl) ?_
  cases hx1 : ix_ 4 s with
  | none =>
    rw [show an_copy A s i o j n = (-2, A) by unfold an_copy; rw [hx1]]
    refine mm_B ok_Sc_copy 0 1 (1, [some (.ref 0), some (.int s), some (.int i), some (.int o), some (.int j), some (.int n)], [.int s], (hp_SH ++ dy, g, r)) [] rfl trivial ?_
    refine mm_cS (as := [.int s]) (st := []) cw_Sc_isSheet lk_Sc_264 sx_Sc_isSheet (mm_at ok_Sc_copy (i := 1) rfl).1 (ct_Sc_isSheet (hp_SH ++ dy, g, r) s) (by decide) ⟨by omega, by omega⟩ (Nat.le_of_ble_eq_true rfl) (mm_vs_b (b := 77) rfl (hp_len dy)) (fun v h' hqq => ?_)
    obtain ⟨rfl, hqe⟩ := hqq; rw [hqe]
    rw [sx_ s, hx1]
    refine mm_I ok_Sc_copy 2 0 4 [some (.ref 0), some (.int s), some (.int i), some (.int o), some (.int j), some (.int n)] [.int (iz_ none)] (hp_SH ++ dy, g, r) [] rfl trivial rfl rfl (fun _ => ?_) (fun q => False.elim (q rfl))
    refine mm_B ok_Sc_copy 6 1 (16, [some (.ref 0), some (.int s), some (.int i), some (.int o), some (.int j), some (.int n)], [.int (-2)], (hp_SH ++ dy, g, r)) [] rfl trivial ?_
    exact mm_ri rfl (mm_at ok_Sc_copy (i := 7) rfl).1 ⟨Nat.le_refl _, Nat.le_refl _⟩ (RC_q rfl hI fr_.rf)
  | some k =>
    obtain ⟨hl1, rfl⟩ := ix_some (by omega) hx1
    cases hx2 : ix_ 4 o with
    | none =>
      rw [show an_copy A (nI k) i o j n = (-2, A) by unfold an_copy; rw [hx1, hx2]]
      refine mm_B ok_Sc_copy 0 1 (1, [some (.ref 0), some (.int (nI k)), some (.int i), some (.int o), some (.int j), some (.int n)], [.int (nI k)], (hp_SH ++ dy, g, r)) [] rfl trivial ?_
      refine mm_cS (as := [.int (nI k)]) (st := []) cw_Sc_isSheet lk_Sc_264 sx_Sc_isSheet (mm_at ok_Sc_copy (i := 1) rfl).1 (ct_Sc_isSheet (hp_SH ++ dy, g, r) (nI k)) (by decide) ⟨by omega, by omega⟩ (Nat.le_of_ble_eq_true rfl) (mm_vs_b (b := 77) rfl (hp_len dy)) (fun v h' hqq => ?_)
      obtain ⟨rfl, hqe⟩ := hqq; rw [hqe]
      rw [sx_ (nI k), ix_at hl1 (by omega)]
      refine mm_I ok_Sc_copy 2 0 4 [some (.ref 0), some (.int (nI k)), some (.int i), some (.int o), some (.int j), some (.int n)] [.int (iz_ (some k))] (hp_SH ++ dy, g, r) [] rfl trivial rfl rfl (fun q => False.elim (one0 q)) (fun _ => ?_)
      refine mm_B ok_Sc_copy 3 1 (8, [some (.ref 0), some (.int (nI k)), some (.int i), some (.int o), some (.int j), some (.int n)], [.int o], (hp_SH ++ dy, g, r)) [] rfl trivial ?_
      refine mm_cS (as := [.int o]) (st := []) cw_Sc_isSheet lk_Sc_264 sx_Sc_isSheet (mm_at ok_Sc_copy (i := 4) rfl).1 (ct_Sc_isSheet (hp_SH ++ dy, g, r) o) (by decide) ⟨by omega, by omega⟩ (Nat.le_of_ble_eq_true rfl) (mm_vs_b (b := 77) rfl (hp_len dy)) (fun v h' hqq => ?_)
      obtain ⟨rfl, hqe⟩ := hqq; rw [hqe]
      rw [sx_ o, hx2]
      refine mm_I ok_Sc_copy 5 0 11 [some (.ref 0), some (.int (nI k)), some (.int i), some (.int o), some (.int j), some (.int n)] [.int (iz_ none)] (hp_SH ++ dy, g, r) [] rfl trivial rfl rfl (fun q => False.elim (q rfl)) (fun _ => ?_)
      refine mm_B ok_Sc_copy 6 1 (16, [some (.ref 0), some (.int (nI k)), some (.int i), some (.int o), some (.int j), some (.int n)], [.int (-2)], (hp_SH ++ dy, g, r)) [] rfl trivial ?_
      exact mm_ri rfl (mm_at ok_Sc_copy (i := 7) rfl).1 ⟨Nat.le_refl _, Nat.le_refl _⟩ (RC_q rfl hI fr_.rf)
    | some l =>
      obtain ⟨hl2, rfl⟩ := ix_some (by omega) hx2
      have hlk := nI_clamp (show k < 2 ^ 31 by omega)
      have hll := nI_clamp (show l < 2 ^ 31 by omega)
      obtain ⟨e45k, hsk⟩ := cS_1 hS hl1
      obtain ⟨e45l, hsl⟩ := cS_1 hS hl2
      rw [nr_eq g rfl] at e45k e45l
      have hsk := cs1_at (cs1_g hl1 hsk)
      have hsl := cs1_at (cs1_g hl2 hsl)
      refine mm_B ok_Sc_copy 0 1 (1, [some (.ref 0), some (.int (nI k)), some (.int i), some (.int (nI l)), some (.int j), some (.int n)], [.int (nI k)], (hp_SH ++ dy, g, r)) [] rfl trivial ?_
      refine mm_cS (as := [.int (nI k)]) (st := []) cw_Sc_isSheet lk_Sc_264 sx_Sc_isSheet (mm_at ok_Sc_copy (i := 1) rfl).1 (ct_Sc_isSheet (hp_SH ++ dy, g, r) (nI k)) (by decide) ⟨by omega, by omega⟩ (Nat.le_of_ble_eq_true rfl) (mm_vs_b (b := 77) rfl (hp_len dy)) (fun v h' hqq => ?_)
      obtain ⟨rfl, hqe⟩ := hqq; rw [hqe]
      rw [sx_ (nI k), ix_at hl1 (by omega)]
      refine mm_I ok_Sc_copy 2 0 4 [some (.ref 0), some (.int (nI k)), some (.int i), some (.int (nI l)), some (.int j), some (.int n)] [.int (iz_ (some k))] (hp_SH ++ dy, g, r) [] rfl trivial rfl rfl (fun q => False.elim (one0 q)) (fun _ => ?_)
      refine mm_B ok_Sc_copy 3 1 (8, [some (.ref 0), some (.int (nI k)), some (.int i), some (.int (nI l)), some (.int j), some (.int n)], [.int (nI l)], (hp_SH ++ dy, g, r)) [] rfl trivial ?_
      refine mm_cS (as := [.int (nI l)]) (st := []) cw_Sc_isSheet lk_Sc_264 sx_Sc_isSheet (mm_at ok_Sc_copy (i := 4) rfl).1 (ct_Sc_isSheet (hp_SH ++ dy, g, r) (nI l)) (by decide) ⟨by omega, by omega⟩ (Nat.le_of_ble_eq_true rfl) (mm_vs_b (b := 77) rfl (hp_len dy)) (fun v h' hqq => ?_)
      obtain ⟨rfl, hqe⟩ := hqq; rw [hqe]
      rw [sx_ (nI l), ix_at hl2 (by omega)]
      refine mm_I ok_Sc_copy 5 0 11 [some (.ref 0), some (.int (nI k)), some (.int i), some (.int (nI l)), some (.int j), some (.int n)] [.int (iz_ (some l))] (hp_SH ++ dy, g, r) [] rfl trivial rfl rfl (fun _ => ?_) (fun q => False.elim (one0 q))
      refine mm_B ok_Sc_copy 8 5 (24, [some (.ref 0), some (.int (nI k)), some (.int i), some (.int (nI l)), some (.int j), some (.int n)], [.int (-1), .int (g 51 ((nI k).toNatClampNeg))], (hp_SH ++ dy, g, r)) [vp_in (nI k) 4] rfl (show vp_in (nI k) 4 from (nI_vi hl1 (by decide))) ?_
      rw [hlk]
      rcases hsk with ⟨hk, a1⟩ | ⟨p, hp, a1, a2, a3, a4, a5⟩
      · rw [an_cp1 hl1 hl2 (Or.inl hk)]
        refine mm_I ok_Sc_copy 13 0 24 [some (.ref 0), some (.int (nI k)), some (.int i), some (.int (nI l)), some (.int j), some (.int n)] [.int (-1), .int (g 51 (k))] (hp_SH ++ dy, g, r) [] rfl trivial rfl rfl (fun _ => ?_) (fun q => False.elim (q a1))
        refine mm_B ok_Sc_copy 20 1 (39, [some (.ref 0), some (.int (nI k)), some (.int i), some (.int (nI l)), some (.int j), some (.int n)], [.int (-11)], (hp_SH ++ dy, g, r)) [] rfl trivial ?_
        exact mm_ri rfl (mm_at ok_Sc_copy (i := 21) rfl).1 ⟨Nat.le_refl _, Nat.le_refl _⟩ (RC_q rfl hI fr_.rf)
      · refine mm_I ok_Sc_copy 13 0 24 [some (.ref 0), some (.int (nI k)), some (.int i), some (.int (nI l)), some (.int j), some (.int n)] [.int (-1), .int (g 51 (k))] (hp_SH ++ dy, g, r) [] rfl trivial rfl rfl (fun q => False.elim (m1_ne (l := p.1) (by omega) (a1.symm.trans q))) (fun _ => ?_)
        refine mm_B ok_Sc_copy 14 5 (34, [some (.ref 0), some (.int (nI k)), some (.int i), some (.int (nI l)), some (.int j), some (.int n)], [.int (-1), .int (g 51 ((nI l).toNatClampNeg))], (hp_SH ++ dy, g, r)) [vp_in (nI l) 4] rfl (show vp_in (nI l) 4 from (nI_vi hl2 (by decide))) ?_
        rw [hll]
        rcases hsl with ⟨hl, b1⟩ | ⟨q', hq, b1, b2, b3, b4, b5⟩
        · rw [an_cp1 hl1 hl2 (Or.inr hl)]
          refine mm_I ok_Sc_copy 19 0 34 [some (.ref 0), some (.int (nI k)), some (.int i), some (.int (nI l)), some (.int j), some (.int n)] [.int (-1), .int (g 51 (l))] (hp_SH ++ dy, g, r) [] rfl trivial rfl rfl (fun q => False.elim (q b1)) (fun _ => ?_)
          refine mm_B ok_Sc_copy 20 1 (39, [some (.ref 0), some (.int (nI k)), some (.int i), some (.int (nI l)), some (.int j), some (.int n)], [.int (-11)], (hp_SH ++ dy, g, r)) [] rfl trivial ?_
          exact mm_ri rfl (mm_at ok_Sc_copy (i := 21) rfl).1 ⟨Nat.le_refl _, Nat.le_refl _⟩ (RC_q rfl hI fr_.rf)
        · rw [an_cp hl1 hl2 hp hq]
          refine mm_I ok_Sc_copy 19 0 34 [some (.ref 0), some (.int (nI k)), some (.int i), some (.int (nI l)), some (.int j), some (.int n)] [.int (-1), .int (g 51 (l))] (hp_SH ++ dy, g, r) [] rfl trivial rfl rfl (fun _ => ?_) (fun q => False.elim (m1_ne (l := q'.1) (by omega) (b1.symm.trans q)))
          refine mm_B ok_Sc_copy 22 8 (52, [some (.ref 0), some (.int (nI k)), some (.int i), some (.int (nI l)), some (.int j), some (.int n)], [.int (g 51 ((nI l).toNatClampNeg)), .int (g 51 ((nI k).toNatClampNeg))], (hp_SH ++ dy, g, r)) [vp_in (nI k) 4, vp_in (nI l) 4] rfl (show (vp_in (nI k) 4) ∧ (vp_in (nI l) 4) from ⟨(nI_vi hl1 (by decide)), (nI_vi hl2 (by decide))⟩) ?_
          rw [hlk, hll, a1, b1]
          by_cases hs : p.1 = q'.1
          · rw [if_pos hs]
            refine mm_I ok_Sc_copy 30 0 52 [some (.ref 0), some (.int (nI k)), some (.int i), some (.int (nI l)), some (.int j), some (.int n)] [.int (nI q'.1), .int (nI p.1)] (hp_SH ++ dy, g, r) [] rfl trivial rfl rfl (fun _ => ?_) (fun q => False.elim (q (congrArg nI hs)))
            refine mm_B ok_Sc_copy 33 6 (67, [some (.ref 0), some (.int (nI k)), some (.int i), some (.int (nI l)), some (.int j), some (.int n)], [.int (g 50 ((nI k).toNatClampNeg)), .int n, .int i], (hp_SH ++ dy, g, r)) [vp_in (nI k) 4] rfl (show vp_in (nI k) 4 from (nI_vi hl1 (by decide))) ?_
            rw [hlk, a3]
            refine mm_cS (as := [.int i, .int n, .int (nI p.2.1)]) (st := []) cw_Sc_isStretch lk_Sc_273 sx_Sc_isStretch (mm_at ok_Sc_copy (i := 39) rfl).1 (ct_Sc_isStretch (hp_SH ++ dy, g, r) i n (nI p.2.1)) (by decide) ⟨by omega, by omega⟩ (Nat.le_of_ble_eq_true rfl) (mm_vs_b (b := 77) rfl (hp_len dy)) (fun v h' hqq => ?_)
            obtain ⟨rfl, hqe⟩ := hqq; rw [hqe]
            rw [is_ok a4 i n]
            by_cases h1 : st_ i n p.2.1
            · rw [if_pos h1]
              refine mm_I ok_Sc_copy 40 0 70 [some (.ref 0), some (.int (nI k)), some (.int i), some (.int (nI l)), some (.int j), some (.int n)] [.int 1] (hp_SH ++ dy, g, r) [] rfl trivial rfl rfl (fun q => False.elim (absurd q (by decide))) (fun _ => ?_)
              refine mm_B ok_Sc_copy 41 6 (83, [some (.ref 0), some (.int (nI k)), some (.int i), some (.int (nI l)), some (.int j), some (.int n)], [.int (g 50 ((nI l).toNatClampNeg)), .int n, .int j], (hp_SH ++ dy, g, r)) [vp_in (nI l) 4] rfl (show vp_in (nI l) 4 from (nI_vi hl2 (by decide))) ?_
              rw [hll, b3]
              refine mm_cS (as := [.int j, .int n, .int (nI q'.2.1)]) (st := []) cw_Sc_isStretch lk_Sc_273 sx_Sc_isStretch (mm_at ok_Sc_copy (i := 47) rfl).1 (ct_Sc_isStretch (hp_SH ++ dy, g, r) j n (nI q'.2.1)) (by decide) ⟨by omega, by omega⟩ (Nat.le_of_ble_eq_true rfl) (mm_vs_b (b := 77) rfl (hp_len dy)) (fun v h' hqq => ?_)
              obtain ⟨rfl, hqe⟩ := hqq; rw [hqe]
              rw [is_ok b4 j n]
              by_cases h2 : st_ j n q'.2.1
              · rw [if_pos h2, if_pos ⟨h1, h2⟩]
                refine mm_I ok_Sc_copy 48 0 86 [some (.ref 0), some (.int (nI k)), some (.int i), some (.int (nI l)), some (.int j), some (.int n)] [.int 1] (hp_SH ++ dy, g, r) [] rfl trivial rfl rfl (fun _ => ?_) (fun q => False.elim (absurd q (by decide)))
                refine mm_B ok_Sc_copy 51 3 (97, [some (.ref 0), some (.int (nI k)), some (.int i), some (.int (nI l)), some (.int j), some (.int n)], [.int (nI k), .ref 45], (hp_SH ++ dy, g, r)) [] rfl trivial ?_
                refine mm_aald (t := 4) (n := 4) (v := .ref (46 + k)) (Or.inr (Or.inr rfl)) ((hp_at dy (by decide)).trans rfl) (nI_vi hl1 (by decide)) (rf_46 hl1 (by show g 45 (nI k).toNatClampNeg = _; rw [hlk]; exact e45k)) (mm_at ok_Sc_copy (i := 54) rfl).1 ?_
                refine mm_B ok_Sc_copy 55 4 (104, [some (.ref 0), some (.int (nI k)), some (.int i), some (.int (nI l)), some (.int j), some (.int n)], [.int (nI l), .ref 45, .int i, .ref (46 + k)], (hp_SH ++ dy, g, r)) [] rfl trivial ?_
                refine mm_aald (t := 4) (n := 4) (v := .ref (46 + l)) (Or.inr (Or.inr rfl)) ((hp_at dy (by decide)).trans rfl) (nI_vi hl2 (by decide)) (rf_46 hl2 (by show g 45 (nI l).toNatClampNeg = _; rw [hll]; exact e45l)) (mm_at ok_Sc_copy (i := 59) rfl).1 ?_
                refine mm_B ok_Sc_copy 60 2 (109, [some (.ref 0), some (.int (nI k)), some (.int i), some (.int (nI l)), some (.int j), some (.int n)], [.int n, .int j, .ref (46 + l), .int i, .ref (46 + k)], (hp_SH ++ dy, g, r)) [] rfl trivial ?_
                refine mm_acopy (k0 := 46 + k) (k1 := 46 + l) (n0 := 40) (n1 := 40) lk_Sc_206 nt_copy sx_copy ii_System (sh_46 hl1) (sh_46 hl2) h1.1 h2.1 h1.2.1 (Nat.le_trans h1.2.2 a4) (Nat.le_trans h2.2.2 b4) (by decide) (Nat.le_of_ble_eq_true rfl) (mm_at ok_Sc_copy (i := 62) rfl).1 ?_
                obtain ⟨i', m, rfl, rfl, h1⟩ := st_nI a4 h1
                obtain ⟨j', m', rfl, hm, h2⟩ := st_nI b4 h2
                obtain rfl : m = m' := (nI_eq (by omega) (by omega)).mp hm
                show mm_W _ _ _ _ _ _ _ (112, [some (.ref 0), some (.int (nI k)), some (.int (nI i')), some (.int (nI l)), some (.int (nI j')), some (.int (nI m))], [], (hp_SH ++ dy, (mm_cp g (46 + k) (46 + l) ((nI i').toNatClampNeg) ((nI j').toNatClampNeg) ((nI m).toNatClampNeg)), r))
                rw [nI_clamp (show i' < 2 ^ 31 by omega), nI_clamp (show j' < 2 ^ 31 by omega), nI_clamp (show m < 2 ^ 31 by omega)]
                have hne : ∀ a x, a ≠ 46 + l → mm_cp g (46 + k) (46 + l) i' j' m a x = g a x := fun a x h => by simp [mm_cp, beq_false_of_ne h]
                have hat : ∀ x, mm_cp g (46 + k) (46 + l) i' j' m (46 + l) x = cpv (g (46 + k)) (g (46 + l)) i' j' m x := fun x => by simp [mm_cp, va_cpy, cpv]
                refine mm_B ok_Sc_copy 63 1 (114, [some (.ref 0), some (.int (nI k)), some (.int (nI i')), some (.int (nI l)), some (.int (nI j')), some (.int (nI m))], [.int (nI m)], (hp_SH ++ dy, (mm_cp g (46 + k) (46 + l) i' j' m), r)) [] rfl trivial ?_
                have hcs : cs1 (mm_cp g (46 + k) (46 + l) i' j' m) l (some (q'.1, q'.2.1, cpv p.2.2 q'.2.2 i' j' m)) := ⟨by rw [hne 51 l (by omega)]; exact b1, b2, by rw [hne 50 l (by omega)]; exact b3, b4, fun x hx => by
                  have hx : x < q'.2.1 := hx
                  show _ = cpv p.2.2 q'.2.2 i' j' m x
                  rw [hat]
                  unfold cpv
                  by_cases e : j' ≤ x ∧ x < j' + m
                  · rw [if_pos e, if_pos e]; exact a5 _ (by omega)
                  · rw [if_neg e, if_neg e]; exact b5 x hx⟩
                exact mm_ri rfl (mm_at ok_Sc_copy (i := 64) rfl).1 ⟨Nat.le_refl _, Nat.le_refl _⟩ (RC_g rfl (CI_sh hI hl2 hcs (fun a x h => hne a x (by omega))) (fun a x h1 h2 => hne a x (by omega)))
              · rw [if_neg h2, if_neg (fun h => h2 h.2)]
                refine mm_I ok_Sc_copy 48 0 86 [some (.ref 0), some (.int (nI k)), some (.int i), some (.int (nI l)), some (.int j), some (.int n)] [.int 0] (hp_SH ++ dy, g, r) [] rfl trivial rfl rfl (fun q => False.elim (q rfl)) (fun _ => ?_)
                refine mm_B ok_Sc_copy 49 1 (91, [some (.ref 0), some (.int (nI k)), some (.int i), some (.int (nI l)), some (.int j), some (.int n)], [.int (-12)], (hp_SH ++ dy, g, r)) [] rfl trivial ?_
                exact mm_ri rfl (mm_at ok_Sc_copy (i := 50) rfl).1 ⟨Nat.le_refl _, Nat.le_refl _⟩ (RC_q rfl hI fr_.rf)
            · rw [if_neg h1, if_neg (fun h => h1 h.1)]
              refine mm_I ok_Sc_copy 40 0 70 [some (.ref 0), some (.int (nI k)), some (.int i), some (.int (nI l)), some (.int j), some (.int n)] [.int 0] (hp_SH ++ dy, g, r) [] rfl trivial rfl rfl (fun _ => ?_) (fun q => False.elim (q rfl))
              refine mm_B ok_Sc_copy 49 1 (91, [some (.ref 0), some (.int (nI k)), some (.int i), some (.int (nI l)), some (.int j), some (.int n)], [.int (-12)], (hp_SH ++ dy, g, r)) [] rfl trivial ?_
              exact mm_ri rfl (mm_at ok_Sc_copy (i := 50) rfl).1 ⟨Nat.le_refl _, Nat.le_refl _⟩ (RC_q rfl hI fr_.rf)
          · rw [if_neg hs]
            refine mm_I ok_Sc_copy 30 0 52 [some (.ref 0), some (.int (nI k)), some (.int i), some (.int (nI l)), some (.int j), some (.int n)] [.int (nI q'.1), .int (nI p.1)] (hp_SH ++ dy, g, r) [] rfl trivial rfl rfl (fun q => False.elim (hs ((nI_eq (by omega) (by omega)).mp q))) (fun _ => ?_)
            refine mm_B ok_Sc_copy 31 1 (57, [some (.ref 0), some (.int (nI k)), some (.int i), some (.int (nI l)), some (.int j), some (.int n)], [.int (-13)], (hp_SH ++ dy, g, r)) [] rfl trivial ?_
            exact mm_ri rfl (mm_at ok_Sc_copy (i := 32) rfl).1 ⟨Nat.le_refl _, Nat.le_refl _⟩ (RC_q rfl hI fr_.rf)
theorem mcp_dn (dy : List mm_Sh) (g : Nat → Nat → Int32) (r : (Nat → Nat → Int64) × Nat × (Nat → Int32)) {A : sA} (hI : MI (nr_ g) A) {k l i j n : Nat} {p q : Nat × Nat × (Nat → Int32)} (hk : k < 4) (hl : l < 4) (a5 : ∀ x, x < p.2.1 → g 76 (40 * k + x) = p.2.2 x) (b0 : g 73 l = 1) (b1 : g 74 l = nI q.1) (b2 : q.1 < 3) (b3 : g 75 l = nI q.2.1) (b4 : q.2.1 ≤ 40) (b5 : ∀ x, x < q.2.1 → g 76 (40 * l + x) = q.2.2 x) (h1 : i + n ≤ p.2.1) (a4 : p.2.1 ≤ 40) (h2 : j + n ≤ q.2.1) (hdir : ¬ (k = l ∧ i < j)) : ∀ (m c : Nat) (g1 : Nat → Nat → Int32), c + m = n → (∀ a x, ¬ (a = 76 ∧ 40 * l + j + (0) ≤ x ∧ x < 40 * l + j + (c)) → g1 a x = g a x) → (∀ x, 0 ≤ x → x < c → g1 76 (40 * l + j + x) = g 76 (40 * k + i + x)) → mm_W 12 M_Mo_copy 0 0 (RM dy g r (nx_sh A l (some (q.1, q.2.1, cpv p.2.2 q.2.2 i j n))) (.int (nI n))) 0 0 (121, [some (.ref 52), some (.int (nI k)), some (.int (nI i)), some (.int (nI l)), some (.int (nI j)), some (.int (nI n)), some (.int 0), some (.int (nI c)), none], [], (hp_SH ++ dy, g1, r)) := by
  intro m
  induction m with
  | zero =>
    intro c g1 hc hF hD
    have hc : c = n := by omega
    subst hc
    refine mm_I ok_Mo_copy 67 2 125 [some (.ref 52), some (.int (nI k)), some (.int (nI i)), some (.int (nI l)), some (.int (nI j)), some (.int (nI c)), some (.int 0), some (.int (nI c)), none] [.int (nI c), .int (nI c)] (hp_SH ++ dy, g1, r) [] rfl trivial rfl rfl (fun _ => ?_) (fun q => False.elim (q (Int32.le_refl _)))
    refine mm_B ok_Mo_copy 102 1 (184, [some (.ref 52), some (.int (nI k)), some (.int (nI i)), some (.int (nI l)), some (.int (nI j)), some (.int (nI c)), some (.int 0), some (.int (nI c)), none], [.int (nI c)], (hp_SH ++ dy, g1, r)) [] rfl trivial ?_
    have hcs : ds1 g1 l (some (q.1, q.2.1, cpv p.2.2 q.2.2 i j c)) := ⟨by rw [hF 73 l (by omega)]; exact b0, by rw [hF 74 l (by omega)]; exact b1, b2, by rw [hF 75 l (by omega)]; exact b3, b4, fun x hx => by
      have hx : x < q.2.1 := hx
      show _ = cpv p.2.2 q.2.2 i j c x
      unfold cpv
      by_cases e : j ≤ x ∧ x < j + c
      · rw [if_pos e, show 40 * l + x = 40 * l + j + (x - j) by omega, hD (x - j) (by omega) (by omega), show 40 * k + i + (x - j) = 40 * k + (i + (x - j)) by omega]
        exact a5 _ (by omega)
      · rw [if_neg e, hF 76 _ (by omega)]; exact b5 x hx⟩
    exact mm_ri rfl (mm_at ok_Mo_copy (i := 103) rfl).1 ⟨Nat.le_refl _, Nat.le_refl _⟩ (RM_g rfl (MI_sh hI hl hcs (fun a x h => hF a x (by omega))) (fun a x h => hF a x (by omega)))
  | succ m ih =>
    intro c g1 hc hF hD
    have e1 : (40 : Int32) * nI l + nI j + nI (c) = nI (40 * l + j + (c)) := by rw [show (40 : Int32) * nI l = nI (40 * l) from (Int32.ofNat_mul 40 l).symm, nI_add, nI_add]
    have e2 : (40 : Int32) * nI k + nI i + nI (c) = nI (40 * k + i + (c)) := by rw [show (40 : Int32) * nI k = nI (40 * k) from (Int32.ofNat_mul 40 k).symm, nI_add, nI_add]
    have hrd : g1 76 (40 * k + i + (c)) = g 76 (40 * k + i + (c)) := hF 76 _ (by omega)
    refine mm_I ok_Mo_copy 67 2 125 [some (.ref 52), some (.int (nI k)), some (.int (nI i)), some (.int (nI l)), some (.int (nI j)), some (.int (nI n)), some (.int 0), some (.int (nI c)), none] [.int (nI n), .int (nI c)] (hp_SH ++ dy, g1, r) [] rfl trivial rfl rfl (fun q => False.elim (absurd q (Int32.not_le.mpr (nI_lt (by omega) (by omega))))) (fun _ => ?_)
    refine mm_I ok_Mo_copy 70 1 130 [some (.ref 52), some (.int (nI k)), some (.int (nI i)), some (.int (nI l)), some (.int (nI j)), some (.int (nI n)), some (.int 0), some (.int (nI c)), none] [.int 0] (hp_SH ++ dy, g1, r) [] rfl trivial rfl rfl (fun _ => ?_) (fun q => False.elim (q rfl))
    refine mm_B ok_Mo_copy 78 1 (145, [some (.ref 52), some (.int (nI k)), some (.int (nI i)), some (.int (nI l)), some (.int (nI j)), some (.int (nI n)), some (.int 0), some (.int (nI c)), none], [.int (nI c)], (hp_SH ++ dy, g1, r)) [] rfl trivial ?_
    refine mm_B ok_Mo_copy 79 23 (121, [some (.ref 52), some (.int (nI k)), some (.int (nI i)), some (.int (nI l)), some (.int (nI j)), some (.int (nI n)), some (.int 0), some (.int ((nI c) + 1)), some (.int (nI c))], [], (hp_SH ++ dy, mm_up g1 76 ((((40 * (nI l)) + (nI j)) + (nI c)).toNatClampNeg) (g1 76 ((((40 * (nI k)) + (nI i)) + (nI c)).toNatClampNeg)), r)) [vp_in (((40 * (nI k)) + (nI i)) + (nI c)) 160, vp_in (((40 * (nI l)) + (nI j)) + (nI c)) 160] rfl (show (vp_in (((40 * (nI k)) + (nI i)) + (nI c)) 160) ∧ (vp_in (((40 * (nI l)) + (nI j)) + (nI c)) 160) from ⟨((by first | (rw [e1]; exact nI_vi (by omega) (by decide)) | (rw [e2]; exact nI_vi (by omega) (by decide)))), ((by first | (rw [e1]; exact nI_vi (by omega) (by decide)) | (rw [e2]; exact nI_vi (by omega) (by decide))))⟩) ?_
    rw [e1, e2, nI_clamp (show 40 * l + j + (c) < 2 ^ 31 by omega), nI_clamp (show 40 * k + i + (c) < 2 ^ 31 by omega), nI_1, hrd]
    refine mm_fg [8] ?_
    exact ih (c + 1) _ (by omega) (fun a x h => by rw [up_off (by omega)]; exact hF a x (by omega)) (fun x hx1 hx2 => by
      by_cases e : x = c
      · rw [e, mm_up_at]
      · rw [up_off (by omega)]; exact hD x (by omega) (by omega))
theorem mcp_up (dy : List mm_Sh) (g : Nat → Nat → Int32) (r : (Nat → Nat → Int64) × Nat × (Nat → Int32)) {A : sA} (hI : MI (nr_ g) A) {k l i j n : Nat} {p q : Nat × Nat × (Nat → Int32)} (hk : k < 4) (hl : l < 4) (a5 : ∀ x, x < p.2.1 → g 76 (40 * k + x) = p.2.2 x) (b0 : g 73 l = 1) (b1 : g 74 l = nI q.1) (b2 : q.1 < 3) (b3 : g 75 l = nI q.2.1) (b4 : q.2.1 ≤ 40) (b5 : ∀ x, x < q.2.1 → g 76 (40 * l + x) = q.2.2 x) (h1 : i + n ≤ p.2.1) (a4 : p.2.1 ≤ 40) (h2 : j + n ≤ q.2.1) (hdir : k = l ∧ i < j) : ∀ (m c : Nat) (g1 : Nat → Nat → Int32), c + m = n → (∀ a x, ¬ (a = 76 ∧ 40 * l + j + (n - c) ≤ x ∧ x < 40 * l + j + (n)) → g1 a x = g a x) → (∀ x, n - c ≤ x → x < n → g1 76 (40 * l + j + x) = g 76 (40 * k + i + x)) → mm_W 12 M_Mo_copy 0 0 (RM dy g r (nx_sh A l (some (q.1, q.2.1, cpv p.2.2 q.2.2 i j n))) (.int (nI n))) 0 0 (121, [some (.ref 52), some (.int (nI k)), some (.int (nI i)), some (.int (nI l)), some (.int (nI j)), some (.int (nI n)), some (.int 1), some (.int (nI c)), none], [], (hp_SH ++ dy, g1, r)) := by
  intro m
  induction m with
  | zero =>
    intro c g1 hc hF hD
    have hc : c = n := by omega
    subst hc
    refine mm_I ok_Mo_copy 67 2 125 [some (.ref 52), some (.int (nI k)), some (.int (nI i)), some (.int (nI l)), some (.int (nI j)), some (.int (nI c)), some (.int 1), some (.int (nI c)), none] [.int (nI c), .int (nI c)] (hp_SH ++ dy, g1, r) [] rfl trivial rfl rfl (fun _ => ?_) (fun q => False.elim (q (Int32.le_refl _)))
    refine mm_B ok_Mo_copy 102 1 (184, [some (.ref 52), some (.int (nI k)), some (.int (nI i)), some (.int (nI l)), some (.int (nI j)), some (.int (nI c)), some (.int 1), some (.int (nI c)), none], [.int (nI c)], (hp_SH ++ dy, g1, r)) [] rfl trivial ?_
    have hcs : ds1 g1 l (some (q.1, q.2.1, cpv p.2.2 q.2.2 i j c)) := ⟨by rw [hF 73 l (by omega)]; exact b0, by rw [hF 74 l (by omega)]; exact b1, b2, by rw [hF 75 l (by omega)]; exact b3, b4, fun x hx => by
      have hx : x < q.2.1 := hx
      show _ = cpv p.2.2 q.2.2 i j c x
      unfold cpv
      by_cases e : j ≤ x ∧ x < j + c
      · rw [if_pos e, show 40 * l + x = 40 * l + j + (x - j) by omega, hD (x - j) (by omega) (by omega), show 40 * k + i + (x - j) = 40 * k + (i + (x - j)) by omega]
        exact a5 _ (by omega)
      · rw [if_neg e, hF 76 _ (by omega)]; exact b5 x hx⟩
    exact mm_ri rfl (mm_at ok_Mo_copy (i := 103) rfl).1 ⟨Nat.le_refl _, Nat.le_refl _⟩ (RM_g rfl (MI_sh hI hl hcs (fun a x h => hF a x (by omega))) (fun a x h => hF a x (by omega)))
  | succ m ih =>
    intro c g1 hc hF hD
    have e1 : (40 : Int32) * nI l + nI j + nI (n - 1 - c) = nI (40 * l + j + (n - 1 - c)) := by rw [show (40 : Int32) * nI l = nI (40 * l) from (Int32.ofNat_mul 40 l).symm, nI_add, nI_add]
    have e2 : (40 : Int32) * nI k + nI i + nI (n - 1 - c) = nI (40 * k + i + (n - 1 - c)) := by rw [show (40 : Int32) * nI k = nI (40 * k) from (Int32.ofNat_mul 40 k).symm, nI_add, nI_add]
    have hrd : g1 76 (40 * k + i + (n - 1 - c)) = g 76 (40 * k + i + (n - 1 - c)) := hF 76 _ (by omega)
    refine mm_I ok_Mo_copy 67 2 125 [some (.ref 52), some (.int (nI k)), some (.int (nI i)), some (.int (nI l)), some (.int (nI j)), some (.int (nI n)), some (.int 1), some (.int (nI c)), none] [.int (nI n), .int (nI c)] (hp_SH ++ dy, g1, r) [] rfl trivial rfl rfl (fun q => False.elim (absurd q (Int32.not_le.mpr (nI_lt (by omega) (by omega))))) (fun _ => ?_)
    refine mm_I ok_Mo_copy 70 1 130 [some (.ref 52), some (.int (nI k)), some (.int (nI i)), some (.int (nI l)), some (.int (nI j)), some (.int (nI n)), some (.int 1), some (.int (nI c)), none] [.int 1] (hp_SH ++ dy, g1, r) [] rfl trivial rfl rfl (fun q => False.elim (absurd q (by decide))) (fun _ => ?_)
    refine mm_B ok_Mo_copy 72 6 (145, [some (.ref 52), some (.int (nI k)), some (.int (nI i)), some (.int (nI l)), some (.int (nI j)), some (.int (nI n)), some (.int 1), some (.int (nI c)), none], [.int (((nI n) - 1) - (nI c))], (hp_SH ++ dy, g1, r)) [] rfl trivial ?_
    rw [show nI n - 1 - nI c = nI (n - 1 - c) by rw [show nI n - 1 = nI (n - 1) from nI_sub (b := 1) (by omega), nI_sub (by omega)]]
    refine mm_B ok_Mo_copy 79 23 (121, [some (.ref 52), some (.int (nI k)), some (.int (nI i)), some (.int (nI l)), some (.int (nI j)), some (.int (nI n)), some (.int 1), some (.int ((nI c) + 1)), some (.int (nI (n - 1 - c)))], [], (hp_SH ++ dy, mm_up g1 76 ((((40 * (nI l)) + (nI j)) + (nI (n - 1 - c))).toNatClampNeg) (g1 76 ((((40 * (nI k)) + (nI i)) + (nI (n - 1 - c))).toNatClampNeg)), r)) [vp_in (((40 * (nI k)) + (nI i)) + (nI (n - 1 - c))) 160, vp_in (((40 * (nI l)) + (nI j)) + (nI (n - 1 - c))) 160] rfl (show (vp_in (((40 * (nI k)) + (nI i)) + (nI (n - 1 - c))) 160) ∧ (vp_in (((40 * (nI l)) + (nI j)) + (nI (n - 1 - c))) 160) from ⟨((by first | (rw [e1]; exact nI_vi (by omega) (by decide)) | (rw [e2]; exact nI_vi (by omega) (by decide)))), ((by first | (rw [e1]; exact nI_vi (by omega) (by decide)) | (rw [e2]; exact nI_vi (by omega) (by decide))))⟩) ?_
    rw [e1, e2, nI_clamp (show 40 * l + j + (n - 1 - c) < 2 ^ 31 by omega), nI_clamp (show 40 * k + i + (n - 1 - c) < 2 ^ 31 by omega), nI_1, hrd]
    refine mm_fg [8] ?_
    exact ih (c + 1) _ (by omega) (fun a x h => by rw [up_off (by omega)]; exact hF a x (by omega)) (fun x hx1 hx2 => by
      by_cases e : x = n - 1 - c
      · rw [e, mm_up_at]
      · rw [up_off (by omega)]; exact hD x (by omega) (by omega))
theorem cm_copy (dy : List mm_Sh) (g : Nat → Nat → Int32) (r : (Nat → Nat → Int64) × Nat × (Nat → Int32)) {A : sA} (hI : MI (nr_ g) A) (hSI : SI A) (s i o j n : Int32) : mm_Ct 12 M_Mo_copy [.ref 52, .int s, .int i, .int o, .int j, .int n] (hp_SH ++ dy, g, r) 0 0 (RM dy g r (an_copy A s i o j n).2 (.int (an_copy A s i o j n).1)) := by
  have hI' := hI
  obtain ⟨hL, hK, hPl, hX, hB, hS, hIm⟩ := hI'
  have hR := dX_R hX
  have h4 := hL.2.1
  have h16 := p2_16 h4
  have h6 := hK.2.1
  have e10 : g 52 10 = nI A.1.1 := by rw [← nr_eq g (k := 52) (j := 10) rfl]; exact hL.1
  have e14 : g 52 14 = nI A.2.1.1 := by rw [← nr_eq g (k := 52) (j := 14) rfl]; exact hK.1
  have hpl : ∀ b, b < 6 → g 62 b = pl_c (A.2.2.1.1 b) := fun b hb => by rw [← nr_eq g (k := 62) (j := b) rfl]; exact (hPl b hb).1
  have hot : ∀ b, b < 6 → g 62 (6 + b) = pl_c (A.2.2.1.2 b) := fun b hb => by rw [← nr_eq g (k := 62) (j := 6 + b) rfl]; exact (hPl b hb).2
  have hpo : ∀ b l, b < 6 → A.2.2.1.1 b = some l → l < A.1.1 := fun b l hb h => hSI.1 b l hb (Or.inl h)
  refine mm_start pl_Mo (Nat.le_of_ble_eq_true rfl) ?_
  cases hx1 : ix_ 4 s with
  | none =>
    rw [show an_copy A s i o j n = (-2, A) by unfold an_copy; rw [hx1]]
    refine mm_B ok_Mo_copy 0 1 (1, [some (.ref 52), some (.int s), some (.int i), some (.int o), some (.int j), some (.int n), none, none, none], [.int s], (hp_SH ++ dy, g, r)) [] rfl trivial ?_
    refine mm_cS (as := [.int s]) (st := []) cw_Mo_isSheet lk_Mo_323 sx_Mo_isSheet (mm_at ok_Mo_copy (i := 1) rfl).1 (ct_Mo_isSheet (hp_SH ++ dy, g, r) s) (by decide) ⟨by omega, by omega⟩ (Nat.le_of_ble_eq_true rfl) (mm_vs_b (b := 77) rfl (hp_len dy)) (fun v h' hqq => ?_)
    obtain ⟨rfl, hqe⟩ := hqq; rw [hqe]
    rw [ms_x s, hx1]
    refine mm_I ok_Mo_copy 2 0 4 [some (.ref 52), some (.int s), some (.int i), some (.int o), some (.int j), some (.int n), none, none, none] [.int (iz_ none)] (hp_SH ++ dy, g, r) [] rfl trivial rfl rfl (fun _ => ?_) (fun q => False.elim (q rfl))
    refine mm_B ok_Mo_copy 6 1 (16, [some (.ref 52), some (.int s), some (.int i), some (.int o), some (.int j), some (.int n), none, none, none], [.int (-2)], (hp_SH ++ dy, g, r)) [] rfl trivial ?_
    exact mm_ri rfl (mm_at ok_Mo_copy (i := 7) rfl).1 ⟨Nat.le_refl _, Nat.le_refl _⟩ (RM_q rfl hI fr_.rf)
  | some k =>
    obtain ⟨hl1, rfl⟩ := ix_some (by omega) hx1
    cases hx2 : ix_ 4 o with
    | none =>
      rw [show an_copy A (nI k) i o j n = (-2, A) by unfold an_copy; rw [hx1, hx2]]
      refine mm_B ok_Mo_copy 0 1 (1, [some (.ref 52), some (.int (nI k)), some (.int i), some (.int o), some (.int j), some (.int n), none, none, none], [.int (nI k)], (hp_SH ++ dy, g, r)) [] rfl trivial ?_
      refine mm_cS (as := [.int (nI k)]) (st := []) cw_Mo_isSheet lk_Mo_323 sx_Mo_isSheet (mm_at ok_Mo_copy (i := 1) rfl).1 (ct_Mo_isSheet (hp_SH ++ dy, g, r) (nI k)) (by decide) ⟨by omega, by omega⟩ (Nat.le_of_ble_eq_true rfl) (mm_vs_b (b := 77) rfl (hp_len dy)) (fun v h' hqq => ?_)
      obtain ⟨rfl, hqe⟩ := hqq; rw [hqe]
      rw [ms_x (nI k), ix_at hl1 (by omega)]
      refine mm_I ok_Mo_copy 2 0 4 [some (.ref 52), some (.int (nI k)), some (.int i), some (.int o), some (.int j), some (.int n), none, none, none] [.int (iz_ (some k))] (hp_SH ++ dy, g, r) [] rfl trivial rfl rfl (fun q => False.elim (one0 q)) (fun _ => ?_)
      refine mm_B ok_Mo_copy 3 1 (8, [some (.ref 52), some (.int (nI k)), some (.int i), some (.int o), some (.int j), some (.int n), none, none, none], [.int o], (hp_SH ++ dy, g, r)) [] rfl trivial ?_
      refine mm_cS (as := [.int o]) (st := []) cw_Mo_isSheet lk_Mo_323 sx_Mo_isSheet (mm_at ok_Mo_copy (i := 4) rfl).1 (ct_Mo_isSheet (hp_SH ++ dy, g, r) o) (by decide) ⟨by omega, by omega⟩ (Nat.le_of_ble_eq_true rfl) (mm_vs_b (b := 77) rfl (hp_len dy)) (fun v h' hqq => ?_)
      obtain ⟨rfl, hqe⟩ := hqq; rw [hqe]
      rw [ms_x o, hx2]
      refine mm_I ok_Mo_copy 5 0 11 [some (.ref 52), some (.int (nI k)), some (.int i), some (.int o), some (.int j), some (.int n), none, none, none] [.int (iz_ none)] (hp_SH ++ dy, g, r) [] rfl trivial rfl rfl (fun q => False.elim (q rfl)) (fun _ => ?_)
      refine mm_B ok_Mo_copy 6 1 (16, [some (.ref 52), some (.int (nI k)), some (.int i), some (.int o), some (.int j), some (.int n), none, none, none], [.int (-2)], (hp_SH ++ dy, g, r)) [] rfl trivial ?_
      exact mm_ri rfl (mm_at ok_Mo_copy (i := 7) rfl).1 ⟨Nat.le_refl _, Nat.le_refl _⟩ (RM_q rfl hI fr_.rf)
    | some l =>
      obtain ⟨hl2, rfl⟩ := ix_some (by omega) hx2
      have hlk := nI_clamp (show k < 2 ^ 31 by omega)
      have hll := nI_clamp (show l < 2 ^ 31 by omega)
      have hsk := ds1_at (ds1_g (dS_1 hS hl1))
      have hsl := ds1_at (ds1_g (dS_1 hS hl2))
      refine mm_B ok_Mo_copy 0 1 (1, [some (.ref 52), some (.int (nI k)), some (.int i), some (.int (nI l)), some (.int j), some (.int n), none, none, none], [.int (nI k)], (hp_SH ++ dy, g, r)) [] rfl trivial ?_
      refine mm_cS (as := [.int (nI k)]) (st := []) cw_Mo_isSheet lk_Mo_323 sx_Mo_isSheet (mm_at ok_Mo_copy (i := 1) rfl).1 (ct_Mo_isSheet (hp_SH ++ dy, g, r) (nI k)) (by decide) ⟨by omega, by omega⟩ (Nat.le_of_ble_eq_true rfl) (mm_vs_b (b := 77) rfl (hp_len dy)) (fun v h' hqq => ?_)
      obtain ⟨rfl, hqe⟩ := hqq; rw [hqe]
      rw [ms_x (nI k), ix_at hl1 (by omega)]
      refine mm_I ok_Mo_copy 2 0 4 [some (.ref 52), some (.int (nI k)), some (.int i), some (.int (nI l)), some (.int j), some (.int n), none, none, none] [.int (iz_ (some k))] (hp_SH ++ dy, g, r) [] rfl trivial rfl rfl (fun q => False.elim (one0 q)) (fun _ => ?_)
      refine mm_B ok_Mo_copy 3 1 (8, [some (.ref 52), some (.int (nI k)), some (.int i), some (.int (nI l)), some (.int j), some (.int n), none, none, none], [.int (nI l)], (hp_SH ++ dy, g, r)) [] rfl trivial ?_
      refine mm_cS (as := [.int (nI l)]) (st := []) cw_Mo_isSheet lk_Mo_323 sx_Mo_isSheet (mm_at ok_Mo_copy (i := 4) rfl).1 (ct_Mo_isSheet (hp_SH ++ dy, g, r) (nI l)) (by decide) ⟨by omega, by omega⟩ (Nat.le_of_ble_eq_true rfl) (mm_vs_b (b := 77) rfl (hp_len dy)) (fun v h' hqq => ?_)
      obtain ⟨rfl, hqe⟩ := hqq; rw [hqe]
      rw [ms_x (nI l), ix_at hl2 (by omega)]
      refine mm_I ok_Mo_copy 5 0 11 [some (.ref 52), some (.int (nI k)), some (.int i), some (.int (nI l)), some (.int j), some (.int n), none, none, none] [.int (iz_ (some l))] (hp_SH ++ dy, g, r) [] rfl trivial rfl rfl (fun _ => ?_) (fun q => False.elim (one0 q))
      refine mm_B ok_Mo_copy 8 4 (23, [some (.ref 52), some (.int (nI k)), some (.int i), some (.int (nI l)), some (.int j), some (.int n), none, none, none], [.int (g 73 ((nI k).toNatClampNeg))], (hp_SH ++ dy, g, r)) [vp_in (nI k) 4] rfl (show vp_in (nI k) 4 from (nI_vi hl1 (by decide))) ?_
      rw [hlk]
      rcases hsk with ⟨hk, a0⟩ | ⟨p, hp, a0, a1, a2, a3, a4, a5⟩
      · rw [an_cp1 hl1 hl2 (Or.inl hk)]
        refine mm_I ok_Mo_copy 12 0 23 [some (.ref 52), some (.int (nI k)), some (.int i), some (.int (nI l)), some (.int j), some (.int n), none, none, none] [.int (g 73 (k))] (hp_SH ++ dy, g, r) [] rfl trivial rfl rfl (fun _ => ?_) (fun q => False.elim (q a0))
        refine mm_B ok_Mo_copy 18 1 (37, [some (.ref 52), some (.int (nI k)), some (.int i), some (.int (nI l)), some (.int j), some (.int n), none, none, none], [.int (-11)], (hp_SH ++ dy, g, r)) [] rfl trivial ?_
        exact mm_ri rfl (mm_at ok_Mo_copy (i := 19) rfl).1 ⟨Nat.le_refl _, Nat.le_refl _⟩ (RM_q rfl hI fr_.rf)
      · refine mm_I ok_Mo_copy 12 0 23 [some (.ref 52), some (.int (nI k)), some (.int i), some (.int (nI l)), some (.int j), some (.int n), none, none, none] [.int (g 73 (k))] (hp_SH ++ dy, g, r) [] rfl trivial rfl rfl (fun q => False.elim (absurd (a0.symm.trans q) (by decide))) (fun _ => ?_)
        refine mm_B ok_Mo_copy 13 4 (32, [some (.ref 52), some (.int (nI k)), some (.int i), some (.int (nI l)), some (.int j), some (.int n), none, none, none], [.int (g 73 ((nI l).toNatClampNeg))], (hp_SH ++ dy, g, r)) [vp_in (nI l) 4] rfl (show vp_in (nI l) 4 from (nI_vi hl2 (by decide))) ?_
        rw [hll]
        rcases hsl with ⟨hl, b0⟩ | ⟨q', hq, b0, b1, b2, b3, b4, b5⟩
        · rw [an_cp1 hl1 hl2 (Or.inr hl)]
          refine mm_I ok_Mo_copy 17 0 32 [some (.ref 52), some (.int (nI k)), some (.int i), some (.int (nI l)), some (.int j), some (.int n), none, none, none] [.int (g 73 (l))] (hp_SH ++ dy, g, r) [] rfl trivial rfl rfl (fun q => False.elim (q b0)) (fun _ => ?_)
          refine mm_B ok_Mo_copy 18 1 (37, [some (.ref 52), some (.int (nI k)), some (.int i), some (.int (nI l)), some (.int j), some (.int n), none, none, none], [.int (-11)], (hp_SH ++ dy, g, r)) [] rfl trivial ?_
          exact mm_ri rfl (mm_at ok_Mo_copy (i := 19) rfl).1 ⟨Nat.le_refl _, Nat.le_refl _⟩ (RM_q rfl hI fr_.rf)
        · rw [an_cp hl1 hl2 hp hq]
          refine mm_I ok_Mo_copy 17 0 32 [some (.ref 52), some (.int (nI k)), some (.int i), some (.int (nI l)), some (.int j), some (.int n), none, none, none] [.int (g 73 (l))] (hp_SH ++ dy, g, r) [] rfl trivial rfl rfl (fun _ => ?_) (fun q => False.elim (absurd (b0.symm.trans q) (by decide)))
          refine mm_B ok_Mo_copy 20 8 (50, [some (.ref 52), some (.int (nI k)), some (.int i), some (.int (nI l)), some (.int j), some (.int n), none, none, none], [.int (g 74 ((nI l).toNatClampNeg)), .int (g 74 ((nI k).toNatClampNeg))], (hp_SH ++ dy, g, r)) [vp_in (nI k) 4, vp_in (nI l) 4] rfl (show (vp_in (nI k) 4) ∧ (vp_in (nI l) 4) from ⟨(nI_vi hl1 (by decide)), (nI_vi hl2 (by decide))⟩) ?_
          rw [hlk, hll, a1, b1]
          by_cases hs : p.1 = q'.1
          · rw [if_pos hs]
            have hbad : ¬ (st_ i n p.2.1 ∧ st_ j n q'.2.1) → mm_W 12 M_Mo_copy 0 0 (RM dy g r (if st_ i n p.2.1 ∧ st_ j n q'.2.1 then (n, nx_sh A l (some (q'.1, q'.2.1, cpv p.2.2 q'.2.2 i.toNatClampNeg j.toNatClampNeg n.toNatClampNeg))) else (-12, A)).2 (.int (if st_ i n p.2.1 ∧ st_ j n q'.2.1 then (n, nx_sh A l (some (q'.1, q'.2.1, cpv p.2.2 q'.2.2 i.toNatClampNeg j.toNatClampNeg n.toNatClampNeg))) else (-12, A)).1)) 0 0 (97, [some (.ref 52), some (.int (nI k)), some (.int i), some (.int (nI l)), some (.int j), some (.int n), none, none, none], [], (hp_SH ++ dy, g, r)) := fun h => by
              rw [if_neg h]
              refine mm_B ok_Mo_copy 53 1 (99, [some (.ref 52), some (.int (nI k)), some (.int i), some (.int (nI l)), some (.int j), some (.int n), none, none, none], [.int (-12)], (hp_SH ++ dy, g, r)) [] rfl trivial ?_
              exact mm_ri rfl (mm_at ok_Mo_copy (i := 54) rfl).1 ⟨Nat.le_refl _, Nat.le_refl _⟩ (RM_q rfl hI fr_.rf)
            refine mm_I ok_Mo_copy 28 0 50 [some (.ref 52), some (.int (nI k)), some (.int i), some (.int (nI l)), some (.int j), some (.int n), none, none, none] [.int (nI q'.1), .int (nI p.1)] (hp_SH ++ dy, g, r) [] rfl trivial rfl rfl (fun _ => ?_) (fun q => False.elim (q (congrArg nI hs)))
            by_cases hn0 : n < 0
            · refine mm_I ok_Mo_copy 31 1 58 [some (.ref 52), some (.int (nI k)), some (.int i), some (.int (nI l)), some (.int j), some (.int n), none, none, none] [.int n] (hp_SH ++ dy, g, r) [] rfl trivial rfl rfl (fun _ => ?_) (fun q => False.elim (q hn0))
              exact hbad (fun h => h.1.2.1 hn0)
            · refine mm_I ok_Mo_copy 31 1 58 [some (.ref 52), some (.int (nI k)), some (.int i), some (.int (nI l)), some (.int j), some (.int n), none, none, none] [.int n] (hp_SH ++ dy, g, r) [] rfl trivial rfl rfl (fun q => False.elim (hn0 q)) (fun _ => ?_)
              by_cases hi0 : i < 0
              · refine mm_I ok_Mo_copy 33 1 62 [some (.ref 52), some (.int (nI k)), some (.int i), some (.int (nI l)), some (.int j), some (.int n), none, none, none] [.int i] (hp_SH ++ dy, g, r) [] rfl trivial rfl rfl (fun _ => ?_) (fun q => False.elim (q hi0))
                exact hbad (fun h => h.1.1 hi0)
              · refine mm_I ok_Mo_copy 33 1 62 [some (.ref 52), some (.int (nI k)), some (.int i), some (.int (nI l)), some (.int j), some (.int n), none, none, none] [.int i] (hp_SH ++ dy, g, r) [] rfl trivial rfl rfl (fun q => False.elim (hi0 q)) (fun _ => ?_)
                by_cases hj0 : j < 0
                · refine mm_I ok_Mo_copy 35 1 67 [some (.ref 52), some (.int (nI k)), some (.int i), some (.int (nI l)), some (.int j), some (.int n), none, none, none] [.int j] (hp_SH ++ dy, g, r) [] rfl trivial rfl rfl (fun _ => ?_) (fun q => False.elim (q hj0))
                  exact hbad (fun h => h.2.1 hj0)
                · obtain ⟨n', hn', rfl⟩ := nI_of hn0
                  obtain ⟨i', hi', rfl⟩ := nI_of hi0
                  obtain ⟨j', hj', rfl⟩ := nI_of hj0
                  refine mm_I ok_Mo_copy 35 1 67 [some (.ref 52), some (.int (nI k)), some (.int (nI i')), some (.int (nI l)), some (.int (nI j')), some (.int (nI n')), none, none, none] [.int (nI j')] (hp_SH ++ dy, g, r) [] rfl trivial rfl rfl (fun q => False.elim (hj0 q)) (fun _ => ?_)
                  refine mm_B ok_Mo_copy 37 7 (80, [some (.ref 52), some (.int (nI k)), some (.int (nI i')), some (.int (nI l)), some (.int (nI j')), some (.int (nI n')), none, none, none], [.int ((g 75 ((nI k).toNatClampNeg)) - (nI n')), .int (nI i')], (hp_SH ++ dy, g, r)) [vp_in (nI k) 4] rfl (show vp_in (nI k) 4 from (nI_vi hl1 (by decide))) ?_
                  rw [hlk, a3]
                  by_cases h1 : i' + n' ≤ p.2.1
                  · refine mm_I ok_Mo_copy 44 0 80 [some (.ref 52), some (.int (nI k)), some (.int (nI i')), some (.int (nI l)), some (.int (nI j')), some (.int (nI n')), none, none, none] [.int ((nI p.2.1) - (nI n')), .int (nI i')] (hp_SH ++ dy, g, r) [] rfl trivial rfl rfl (fun q => False.elim (absurd ((sb_lt a4 hn' hi').mp q) (by omega))) (fun _ => ?_)
                    refine mm_B ok_Mo_copy 45 7 (94, [some (.ref 52), some (.int (nI k)), some (.int (nI i')), some (.int (nI l)), some (.int (nI j')), some (.int (nI n')), none, none, none], [.int ((g 75 ((nI l).toNatClampNeg)) - (nI n')), .int (nI j')], (hp_SH ++ dy, g, r)) [vp_in (nI l) 4] rfl (show vp_in (nI l) 4 from (nI_vi hl2 (by decide))) ?_
                    rw [hll, b3]
                    by_cases h2 : j' + n' ≤ q'.2.1
                    · rw [if_pos ⟨(st_e hi' hn').mpr h1, (st_e hj' hn').mpr h2⟩, nI_clamp hi', nI_clamp hj', nI_clamp hn']
                      refine mm_I ok_Mo_copy 52 0 94 [some (.ref 52), some (.int (nI k)), some (.int (nI i')), some (.int (nI l)), some (.int (nI j')), some (.int (nI n')), none, none, none] [.int ((nI q'.2.1) - (nI n')), .int (nI j')] (hp_SH ++ dy, g, r) [] rfl trivial rfl rfl (fun _ => ?_) (fun q => False.elim (q (Int32.not_lt.mp (mt (sb_lt b4 hn' hj').mp (by omega)))))
                      by_cases hkl : k = l
                      · refine mm_I ok_Mo_copy 55 2 102 [some (.ref 52), some (.int (nI k)), some (.int (nI i')), some (.int (nI l)), some (.int (nI j')), some (.int (nI n')), none, none, none] [.int (nI l), .int (nI k)] (hp_SH ++ dy, g, r) [] rfl trivial rfl rfl (fun q => False.elim (q (congrArg nI hkl))) (fun _ => ?_)
                        by_cases hij : i' < j'
                        · refine mm_I ok_Mo_copy 58 2 108 [some (.ref 52), some (.int (nI k)), some (.int (nI i')), some (.int (nI l)), some (.int (nI j')), some (.int (nI n')), none, none, none] [.int (nI j'), .int (nI i')] (hp_SH ++ dy, g, r) [] rfl trivial rfl rfl (fun q => False.elim (absurd q (Int32.not_le.mpr (nI_lt hij hj')))) (fun _ => ?_)
                          refine mm_B ok_Mo_copy 61 2 (116, [some (.ref 52), some (.int (nI k)), some (.int (nI i')), some (.int (nI l)), some (.int (nI j')), some (.int (nI n')), none, none, none], [.int 1], (hp_SH ++ dy, g, r)) [] rfl trivial ?_
                          refine mm_B ok_Mo_copy 64 3 (121, [some (.ref 52), some (.int (nI k)), some (.int (nI i')), some (.int (nI l)), some (.int (nI j')), some (.int (nI n')), some (.int 1), some (.int 0), none], [], (hp_SH ++ dy, g, r)) [] rfl trivial ?_
                          exact mcp_up dy g r hI hl1 hl2 a5 b0 b1 b2 b3 b4 b5 h1 a4 h2 ⟨hkl, hij⟩ n' 0 g (Nat.zero_add _) (fun _ _ _ => rfl) (fun x h1 h2 => by omega)
                        · refine mm_I ok_Mo_copy 58 2 108 [some (.ref 52), some (.int (nI k)), some (.int (nI i')), some (.int (nI l)), some (.int (nI j')), some (.int (nI n')), none, none, none] [.int (nI j'), .int (nI i')] (hp_SH ++ dy, g, r) [] rfl trivial rfl rfl (fun _ => ?_) (fun q => False.elim (q (nI_le (by omega) hi')))
                          refine mm_B ok_Mo_copy 63 4 (121, [some (.ref 52), some (.int (nI k)), some (.int (nI i')), some (.int (nI l)), some (.int (nI j')), some (.int (nI n')), some (.int 0), some (.int 0), none], [], (hp_SH ++ dy, g, r)) [] rfl trivial ?_
                          exact mcp_dn dy g r hI hl1 hl2 a5 b0 b1 b2 b3 b4 b5 h1 a4 h2 (fun h => hij h.2) n' 0 g (Nat.zero_add _) (fun _ _ _ => rfl) (fun x h1 h2 => by omega)
                      · refine mm_I ok_Mo_copy 55 2 102 [some (.ref 52), some (.int (nI k)), some (.int (nI i')), some (.int (nI l)), some (.int (nI j')), some (.int (nI n')), none, none, none] [.int (nI l), .int (nI k)] (hp_SH ++ dy, g, r) [] rfl trivial rfl rfl (fun _ => ?_) (fun q => False.elim (hkl ((nI_eq (by omega) (by omega)).mp q)))
                        refine mm_B ok_Mo_copy 63 4 (121, [some (.ref 52), some (.int (nI k)), some (.int (nI i')), some (.int (nI l)), some (.int (nI j')), some (.int (nI n')), some (.int 0), some (.int 0), none], [], (hp_SH ++ dy, g, r)) [] rfl trivial ?_
                        exact mcp_dn dy g r hI hl1 hl2 a5 b0 b1 b2 b3 b4 b5 h1 a4 h2 (fun h => hkl h.1) n' 0 g (Nat.zero_add _) (fun _ _ _ => rfl) (fun x h1 h2 => by omega)
                    · refine mm_I ok_Mo_copy 52 0 94 [some (.ref 52), some (.int (nI k)), some (.int (nI i')), some (.int (nI l)), some (.int (nI j')), some (.int (nI n')), none, none, none] [.int ((nI q'.2.1) - (nI n')), .int (nI j')] (hp_SH ++ dy, g, r) [] rfl trivial rfl rfl (fun q => False.elim (absurd q (Int32.not_le.mpr ((sb_lt b4 hn' hj').mpr (by omega))))) (fun _ => ?_)
                      exact hbad (fun h => h2 ((st_e hj' hn').mp h.2))
                  · refine mm_I ok_Mo_copy 44 0 80 [some (.ref 52), some (.int (nI k)), some (.int (nI i')), some (.int (nI l)), some (.int (nI j')), some (.int (nI n')), none, none, none] [.int ((nI p.2.1) - (nI n')), .int (nI i')] (hp_SH ++ dy, g, r) [] rfl trivial rfl rfl (fun _ => ?_) (fun q => False.elim (q ((sb_lt a4 hn' hi').mpr (by omega))))
                    exact hbad (fun h => h1 ((st_e hi' hn').mp h.1))
          · rw [if_neg hs]
            refine mm_I ok_Mo_copy 28 0 50 [some (.ref 52), some (.int (nI k)), some (.int i), some (.int (nI l)), some (.int j), some (.int n), none, none, none] [.int (nI q'.1), .int (nI p.1)] (hp_SH ++ dy, g, r) [] rfl trivial rfl rfl (fun q => False.elim (hs ((nI_eq (by omega) (by omega)).mp q))) (fun _ => ?_)
            refine mm_B ok_Mo_copy 29 1 (55, [some (.ref 52), some (.int (nI k)), some (.int i), some (.int (nI l)), some (.int j), some (.int n), none, none, none], [.int (-13)], (hp_SH ++ dy, g, r)) [] rfl trivial ?_
            exact mm_ri rfl (mm_at ok_Mo_copy (i := 30) rfl).1 ⟨Nat.le_refl _, Nat.le_refl _⟩ (RM_q rfl hI fr_.rf)

