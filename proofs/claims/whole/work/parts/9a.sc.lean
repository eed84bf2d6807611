/-! ===== calls that change the state: children ===== -/
def RK (dy : List mm_Sh) (g : Nat → Nat → Int32) (r : (Nat → Nat → Int64) × Nat × (Nat → Int32)) (A : sA) (x : Value) : Option Value → mm_Hp → Prop := fun v h' => v = some x ∧ ∃ g' r', h' = (hp_SH ++ dy, g', r') ∧ r'.2 = r.2 ∧ CI dy (nr_ g') A ∧ ∀ k j, 52 ≤ k → k ≤ 76 → g' k j = g k j
theorem RK_g {dy : List mm_Sh} {g g' : Nat → Nat → Int32} {r r' : (Nat → Nat → Int64) × Nat × (Nat → Int32)} {A : sA} {x : Value} (hr : r'.2 = r.2) (hI : CI dy (nr_ g') A) (hf : ∀ k j, 52 ≤ k → k ≤ 76 → g' k j = g k j) : RK dy g r A x (some x) (hp_SH ++ dy, g', r') := ⟨rfl, g', r', rfl, hr, hI, hf⟩
theorem RK_q {dy : List mm_Sh} {g : Nat → Nat → Int32} {r r' : (Nat → Nat → Int64) × Nat × (Nat → Int32)} {A : sA} {x : Value} (hr : r'.2 = r.2) (hI : CI dy (nr_ g) A) (hF : fr_ cz_ g g) : RK dy g r A x (some x) (hp_SH ++ dy, g, r') := RK_g hr hI (fun _ _ _ _ => rfl)
theorem cc_brink (dy : List mm_Sh) (g : Nat → Nat → Int32) (r : (Nat → Nat → Int64) × Nat × (Nat → Int32)) {A : sA} (hI : CI dy (nr_ g) A) (w a : Int32) : mm_Ct 4 M_Sc_bring [.ref 0, .int w, .int a] (hp_SH ++ dy, g, r) 0 0 (RK dy g r (an_child A w a).2 (.int (an_child A w a).1)) := by
  have hK := hI.2.1
  have h6 := hK.2.1
  have e21 : g 2 1 = nI A.2.1.1 := by rw [← nr_eq g (k := 2) (j := 1) rfl]; exact hK.1
  have hbad : ch_ w a = none → RK dy g r (an_child A w a).2 (.int (an_child A w a).1) (some (.int (-2))) (hp_SH ++ dy, g, r) := fun h => by
    rw [show an_child A w a = (-2, A) by unfold an_child; rw [h]]
    exact RK_q rfl hI fr_.rf
  refine mm_start pl_Sc (Nat.le_of_ble_eq_true rfl) ?_
  refine mm_I ok_Sc_bring 0 1 1 [some (.ref 0), some (.int w), some (.int a)] [.int w] (hp_SH ++ dy, g, r) [] rfl trivial rfl rfl (fun h0 => ?_) (fun h0 => ?_)
  · refine mm_B ok_Sc_bring 22 1 (44, [some (.ref 0), some (.int w), some (.int a)], [.int (-2)], (hp_SH ++ dy, g, r)) [] rfl trivial ?_
    exact mm_ri rfl (mm_at ok_Sc_bring (i := 23) rfl).1 ⟨Nat.le_refl _, Nat.le_refl _⟩ (hbad (by unfold ch_ ix_; rw [if_pos h0]))
  · obtain ⟨x, hx, rfl⟩ := nI_of h0
    have e1 : nI x / 10 = nI (x / 10) := nI_div (b := 10) hx (by decide)
    have e2 : nI x - nI x / 10 * 10 = nI (x % 10) := nI_mod (b := 10) hx (by decide)
    have hbx : ∀ n, ¬ n < 6 → ix_ 6 (nI n) = none ∨ 2 ^ 31 ≤ n := fun n hn => by
      rcases Nat.lt_or_ge n (2 ^ 31) with h | h
      · left
        unfold ix_
        rw [if_neg (nI_pos h), if_pos (nI_le (by omega) h)]
      · exact Or.inr h
    refine mm_B ok_Sc_bring 2 3 (8, [some (.ref 0), some (.int (nI x)), some (.int a)], [.int ((nI x) / 10)], (hp_SH ++ dy, g, r)) [¬ (10 : Int32) = 0] rfl (show ¬ (10 : Int32) = 0 from ((by decide))) ?_
    rw [e1]
    refine mm_cS (as := [.int (nI (x / 10))]) (st := []) cw_Sc_isBend lk_Sc_142 sx_Sc_isBend (mm_at ok_Sc_bring (i := 5) rfl).1 (ct_Sc_isBend (hp_SH ++ dy, g, r) (nI (x / 10))) (by decide) ⟨by omega, by omega⟩ (Nat.le_of_ble_eq_true rfl) (mm_vs_b (b := 77) rfl (hp_len dy)) (fun v h' hqq => ?_)
    obtain ⟨rfl, hqe⟩ := hqq; rw [hqe, bx_]
    by_cases h1 : x / 10 < 6
    · rw [ix_at h1 (by decide)]
      refine mm_I ok_Sc_bring 6 0 11 [some (.ref 0), some (.int (nI x)), some (.int a)] [.int (iz_ (some (x / 10)))] (hp_SH ++ dy, g, r) [] rfl trivial rfl rfl (fun q => False.elim (one0 q)) (fun _ => ?_)
      refine mm_B ok_Sc_bring 7 3 (18, [some (.ref 0), some (.int (nI x)), some (.int a)], [.int ((nI x) - (nI x) / 10 * 10)], (hp_SH ++ dy, g, r)) [¬ (10 : Int32) = 0] rfl (show ¬ (10 : Int32) = 0 from ((by decide))) ?_
      rw [e2]
      refine mm_cS (as := [.int (nI (x % 10))]) (st := []) cw_Sc_isBend lk_Sc_142 sx_Sc_isBend (mm_at ok_Sc_bring (i := 10) rfl).1 (ct_Sc_isBend (hp_SH ++ dy, g, r) (nI (x % 10))) (by decide) ⟨by omega, by omega⟩ (Nat.le_of_ble_eq_true rfl) (mm_vs_b (b := 77) rfl (hp_len dy)) (fun v h' hqq => ?_)
      obtain ⟨rfl, hqe⟩ := hqq; rw [hqe, bx_]
      by_cases h2 : x % 10 < 6
      · rw [ix_at h2 (by decide)]
        refine mm_I ok_Sc_bring 11 0 21 [some (.ref 0), some (.int (nI x)), some (.int a)] [.int (iz_ (some (x % 10)))] (hp_SH ++ dy, g, r) [] rfl trivial rfl rfl (fun q => False.elim (one0 q)) (fun _ => ?_)
        refine mm_B ok_Sc_bring 12 6 (32, [some (.ref 0), some (.int (nI x)), some (.int a)], [.int ((nI x) - (nI x) / 10 * 10), .int ((nI x) / 10)], (hp_SH ++ dy, g, r)) [¬ (10 : Int32) = 0, ¬ (10 : Int32) = 0] rfl (show (¬ (10 : Int32) = 0) ∧ (¬ (10 : Int32) = 0) from ⟨((by decide)), ((by decide))⟩) ?_
        rw [e2, e1]
        refine mm_I ok_Sc_bring 18 0 32 [some (.ref 0), some (.int (nI x)), some (.int a)] [.int (nI (x % 10)), .int (nI (x / 10))] (hp_SH ++ dy, g, r) [] rfl trivial rfl rfl (fun h3 => ?_) (fun h3 => ?_)
        · have h3 := (nI_ltI (by omega) (by omega)).mp h3
          refine mm_B ok_Sc_bring 22 1 (44, [some (.ref 0), some (.int (nI x)), some (.int a)], [.int (-2)], (hp_SH ++ dy, g, r)) [] rfl trivial ?_
          exact mm_ri rfl (mm_at ok_Sc_bring (i := 23) rfl).1 ⟨Nat.le_refl _, Nat.le_refl _⟩ (hbad (by unfold ch_; rw [ix_at (show x < 100 by omega) (by decide)]; cases ag_ a with | none => rfl | some y => exact if_neg (by omega)))
        · have h3 := (nI_leI (by omega) (by omega)).mp (Int32.not_lt.mp h3)
          refine mm_B ok_Sc_bring 19 1 (36, [some (.ref 0), some (.int (nI x)), some (.int a)], [.int a], (hp_SH ++ dy, g, r)) [] rfl trivial ?_
          refine mm_cS (as := [.int a]) (st := []) cw_Sc_isAge lk_Sc_280 sx_Sc_isAge (mm_at ok_Sc_bring (i := 20) rfl).1 (ct_Sc_isAge (hp_SH ++ dy, g, r) a) (by decide) ⟨by omega, by omega⟩ (Nat.le_of_ble_eq_true rfl) (mm_vs_b (b := 77) rfl (hp_len dy)) (fun v h' hqq => ?_)
          obtain ⟨rfl, hqe⟩ := hqq; rw [hqe]
          cases ha : ag_ a with
          | none =>
            rw [ag_none ha]
            refine mm_I ok_Sc_bring 21 0 39 [some (.ref 0), some (.int (nI x)), some (.int a)] [.int 0] (hp_SH ++ dy, g, r) [] rfl trivial rfl rfl (fun q => False.elim (q rfl)) (fun _ => ?_)
            refine mm_B ok_Sc_bring 22 1 (44, [some (.ref 0), some (.int (nI x)), some (.int a)], [.int (-2)], (hp_SH ++ dy, g, r)) [] rfl trivial ?_
            exact mm_ri rfl (mm_at ok_Sc_bring (i := 23) rfl).1 ⟨Nat.le_refl _, Nat.le_refl _⟩ (hbad (by unfold ch_; rw [ix_at (show x < 100 by omega) (by decide), ha]))
          | some y =>
            obtain ⟨rfl, hy, hya⟩ := ag_some ha
            have hch : ch_ (nI x) (nI y) = some (x, y) := by unfold ch_; rw [ix_at (show x < 100 by omega) (by decide), ha]; exact if_pos ⟨h2, h3⟩
            rw [hya]
            refine mm_I ok_Sc_bring 21 0 39 [some (.ref 0), some (.int (nI x)), some (.int (nI y))] [.int 1] (hp_SH ++ dy, g, r) [] rfl trivial rfl rfl (fun _ => ?_) (fun q => False.elim (absurd q (by decide)))
            refine mm_B ok_Sc_bring 24 5 (57, [some (.ref 0), some (.int (nI x)), some (.int (nI y))], [.int 6, .int (g 2 1)], (hp_SH ++ dy, g, r)) [] rfl trivial ?_
            rw [e21]
            by_cases hc : A.2.1.1 = 6
            · rw [show an_child A (nI x) (nI y) = (-4, A) by unfold an_child; rw [hch]; exact if_pos hc]
              refine mm_I ok_Sc_bring 29 0 57 [some (.ref 0), some (.int (nI x)), some (.int (nI y))] [.int 6, .int (nI A.2.1.1)] (hp_SH ++ dy, g, r) [] rfl trivial rfl rfl (fun q => False.elim (absurd (hc ▸ q : nI 6 < 6) (by decide))) (fun _ => ?_)
              refine mm_B ok_Sc_bring 30 1 (62, [some (.ref 0), some (.int (nI x)), some (.int (nI y))], [.int (-4)], (hp_SH ++ dy, g, r)) [] rfl trivial ?_
              exact mm_ri rfl (mm_at ok_Sc_bring (i := 31) rfl).1 ⟨Nat.le_refl _, Nat.le_refl _⟩ (RK_q rfl hI fr_.rf)
            · rw [show an_child A (nI x) (nI y) = (nI A.2.1.1, nx_child A (x / 10) (x % 10) y) by unfold an_child; rw [hch]; exact if_neg hc]
              refine mm_I ok_Sc_bring 29 0 57 [some (.ref 0), some (.int (nI x)), some (.int (nI y))] [.int 6, .int (nI A.2.1.1)] (hp_SH ++ dy, g, r) [] rfl trivial rfl rfl (fun _ => ?_) (fun q => False.elim (q (nI_lt (b := 6) (by omega) (by decide))))
              refine mm_B ok_Sc_bring 32 2 (67, [some (.ref 0), some (.int (nI x)), some (.int (nI y))], [.ref 25], (hp_SH ++ dy, g, r)) [] rfl trivial ?_
              refine mm_cV (as := []) (st := []) (q := 25) cw_Se_forget lk_Sc_83 in_Se_forget sl_Se_forget rfl rfl (mm_at ok_Sc_bring (i := 34) rfl).1 (ct_Se_forget dy g r) (by decide) ⟨by omega, by omega⟩ (Nat.le_of_ble_eq_true rfl) (mm_vs_b (b := 77) rfl (hp_len dy)) (fun v h' hqq => ?_)
              obtain ⟨rfl, hqe⟩ := hqq; rw [hqe]
              refine mm_B ok_Sc_bring 35 10 (86, [some (.ref 0), some (.int (nI x)), some (.int (nI y))], [.int (nI y), .int ((nI x) - (nI x) / 10 * 10), .int ((nI x) / 10), .ref 2], (hp_SH ++ dy, mm_up g 25 2 0, r)) [¬ (10 : Int32) = 0, ¬ (10 : Int32) = 0] rfl (show (¬ (10 : Int32) = 0) ∧ (¬ (10 : Int32) = 0) from ⟨((by decide)), ((by decide))⟩) ?_
              rw [e2, e1]
              refine mm_cV (as := [.int (nI (x / 10)), .int (nI (x % 10)), .int (nI y)]) (st := []) (q := 2) cw_Bo_addChild lk_Sc_296 in_Bo_addChild sl_Bo_addChild rfl rfl (mm_at ok_Sc_bring (i := 45) rfl).1 (ct_Bo_addChild dy (mm_up g 25 2 0) r (n := A.2.1.1) e21 (by omega) (nI (x / 10)) (nI (x % 10)) (nI y)) (by decide) ⟨by omega, by omega⟩ (Nat.le_of_ble_eq_true rfl) (mm_vs_b (b := 77) rfl (hp_len dy)) (fun v h' hqq => ?_)
              obtain ⟨rfl, hqe⟩ := hqq; rw [hqe]
              exact mm_ri rfl (mm_at ok_Sc_bring (i := 46) rfl).1 ⟨Nat.le_refl _, Nat.le_refl _⟩ (RK_g rfl (CI_child hI (by omega) h3 (by omega) (mm_up_at _ 2 1 _) (mm_up_at _ 6 _ _) (mm_up_at _ 7 _ _) (mm_up_at _ 8 _ _) (by rw [up_off (by omega), up_off (by omega), up_off (by omega), up_off (by omega), mm_up_at]) (fun a j h => by rw [up_off (by omega), up_off (by omega), up_off (by omega), up_off (by omega), up_off (by omega)])) (fun a j h1 h2 => by rw [up_off (by omega), up_off (by omega), up_off (by omega), up_off (by omega), up_off (by omega)]))
      · rw [(hbx (x % 10) h2).resolve_right (by omega)]
        refine mm_I ok_Sc_bring 11 0 21 [some (.ref 0), some (.int (nI x)), some (.int a)] [.int (iz_ none)] (hp_SH ++ dy, g, r) [] rfl trivial rfl rfl (fun _ => ?_) (fun q => False.elim (q rfl))
        refine mm_B ok_Sc_bring 22 1 (44, [some (.ref 0), some (.int (nI x)), some (.int a)], [.int (-2)], (hp_SH ++ dy, g, r)) [] rfl trivial ?_
        exact mm_ri rfl (mm_at ok_Sc_bring (i := 23) rfl).1 ⟨Nat.le_refl _, Nat.le_refl _⟩ (hbad (by unfold ch_; rw [ix_at (show x < 100 by omega) (by decide)]; cases ag_ a with | none => rfl | some y => exact if_neg (by omega)))
    · rw [(hbx (x / 10) h1).resolve_right (by omega)]
      refine mm_I ok_Sc_bring 6 0 11 [some (.ref 0), some (.int (nI x)), some (.int a)] [.int (iz_ none)] (hp_SH ++ dy, g, r) [] rfl trivial rfl rfl (fun _ => ?_) (fun q => False.elim (q rfl))
      refine mm_B ok_Sc_bring 22 1 (44, [some (.ref 0), some (.int (nI x)), some (.int a)], [.int (-2)], (hp_SH ++ dy, g, r)) [] rfl trivial ?_
      exact mm_ri rfl (mm_at ok_Sc_bring (i := 23) rfl).1 ⟨Nat.le_refl _, Nat.le_refl _⟩ (hbad (by unfold ch_; cases hxx : ix_ 100 (nI x) with | none => rfl | some z => (obtain ⟨hz, e⟩ := ix_some (by decide) hxx; have := (nI_eq hx (by omega)).mp e; cases ag_ a with | none => rfl | some y => exact if_neg (by omega))))
theorem ch_sh (A : sA) (w a : Int32) : (an_child A w a).2.2.2.2.2.2.1 = A.2.2.2.2.2.1 := by
  unfold an_child
  split
  · split <;> rfl
  · rfl
theorem SI_ch {A : sA} (h : SI A) (w a : Int32) : SI (an_child A w a).2 := by
  unfold an_child
  split
  · split
    · exact h
    · exact SI_child h _ _ _
  · exact h
def clp_ (p : Nat × Nat × (Nat → Int32)) (f : Int32) : Nat → Nat → Nat → sA → Int32 × sA
  | 0, _, c, A => (nI c, A)
  | m + 1, x, c, A => if st_ f (nI (2 * x + 2)) p.2.1 then (fun q : Int32 × sA => clp_ p f m (x + 1) (if q.1 < 0 then c else c + 1) q.2) (an_child A (p.2.2 (f.toNatClampNeg + 2 * x)) (p.2.2 (f.toNatClampNeg + 2 * x + 1))) else (-12, A)
theorem SI_cl {p : Nat × Nat × (Nat → Int32)} {f : Int32} : ∀ (m x c : Nat) (A : sA), SI A → SI (clp_ p f m x c A).2
  | 0, _, _, _, h => h
  | m + 1, x, c, A, h => by
    simp only [clp_]
    split
    · exact SI_cl m (x + 1) _ _ (SI_ch h _ _)
    · exact h
def an_children (A : sA) (s t f n : Int32) : Int32 × sA := match ix_ 4 s, ix_ 3 t, ix_ 7 n with
  | some k, some j, some m => (match A.2.2.2.2.2.1 k with
    | none => (-11, A)
    | some p => if p.1 = j then clp_ p f m 0 0 A else (-13, A))
  | _, _, _ => (-2, A)
theorem x2_ (x : Nat) : (2 : Int32) * nI x = nI (2 * x) := (Int32.ofNat_mul 2 x).symm
theorem x22 (x : Nat) : (2 : Int32) * nI x + 2 = nI (2 * x + 2) := by rw [x2_]; exact nI_add (2 * x) 2
theorem cch_go (dy : List mm_Sh) (g : Nat → Nat → Int32) (r : (Nat → Nat → Int64) × Nat × (Nat → Int32)) {k M : Nat} (hk : k < 4) (hM : M < 7) {p : Nat × Nat × (Nat → Int32)} (t f : Int32) : ∀ (m x c : Nat) (A : sA) (g1 : Nat → Nat → Int32) (r1 : (Nat → Nat → Int64) × Nat × (Nat → Int32)), x + m = M → CI dy (nr_ g1) A → A.2.2.2.2.2.1 k = some p → r1.2 = r.2 → (∀ a j, 52 ≤ a → a ≤ 76 → g1 a j = g a j) → mm_W 12 M_Sc_children 0 0 (RC dy g r (clp_ p f m x c A).2 (.int (clp_ p f m x c A).1)) 0 0 (61, [some (.ref 0), some (.int (nI k)), some (.int t), some (.int f), some (.int (nI M)), some (.int (nI c)), some (.int (nI x)), none], [], (hp_SH ++ dy, g1, r1)) := by
  have hlk := nI_clamp (show k < 2 ^ 31 by omega)
  intro m
  induction m with
  | zero =>
    intro x c A g1 r1 hx hI hp hr hF
    have hx : x = M := by omega
    subst hx
    refine mm_I ok_Sc_children 33 2 65 [some (.ref 0), some (.int (nI k)), some (.int t), some (.int f), some (.int (nI x)), some (.int (nI c)), some (.int (nI x)), none] [.int (nI x), .int (nI x)] (hp_SH ++ dy, g1, r1) [] rfl trivial rfl rfl (fun _ => ?_) (fun q => False.elim (q (Int32.le_refl _)))
    refine mm_B ok_Sc_children 85 1 (148, [some (.ref 0), some (.int (nI k)), some (.int t), some (.int f), some (.int (nI x)), some (.int (nI c)), some (.int (nI x)), none], [.int (nI c)], (hp_SH ++ dy, g1, r1)) [] rfl trivial ?_
    exact mm_ri rfl (mm_at ok_Sc_children (i := 86) rfl).1 ⟨Nat.le_refl _, Nat.le_refl _⟩ (RC_g hr hI hF)
  | succ m ih =>
    intro x c A g1 r1 hx hI hp hr hF
    obtain ⟨e45, hs1⟩ := cS_1 hI.2.2.2.2.2.1 hk
    rw [nr_eq g1 rfl] at e45
    have hs1 := cs1_g hk hs1
    rw [hp] at hs1
    obtain ⟨a1, a2, a3, a4, a5⟩ := hs1
    refine mm_I ok_Sc_children 33 2 65 [some (.ref 0), some (.int (nI k)), some (.int t), some (.int f), some (.int (nI M)), some (.int (nI c)), some (.int (nI x)), none] [.int (nI M), .int (nI x)] (hp_SH ++ dy, g1, r1) [] rfl trivial rfl rfl (fun q => False.elim (absurd q (Int32.not_le.mpr (nI_lt (by omega) (by omega))))) (fun _ => ?_)
    refine mm_B ok_Sc_children 36 10 (81, [some (.ref 0), some (.int (nI k)), some (.int t), some (.int f), some (.int (nI M)), some (.int (nI c)), some (.int (nI x)), none], [.int (g1 50 ((nI k).toNatClampNeg)), .int ((2 * (nI x)) + 2), .int f], (hp_SH ++ dy, g1, r1)) [vp_in (nI k) 4] rfl (show vp_in (nI k) 4 from (nI_vi hk (by decide))) ?_
    rw [hlk, a3, x22]
    refine mm_cS (as := [.int f, .int (nI (2 * x + 2)), .int (nI p.2.1)]) (st := []) cw_Sc_isStretch lk_Sc_273 sx_Sc_isStretch (mm_at ok_Sc_children (i := 46) rfl).1 (ct_Sc_isStretch (hp_SH ++ dy, g1, r1) f (nI (2 * x + 2)) (nI p.2.1)) (by decide) ⟨by omega, by omega⟩ (Nat.le_of_ble_eq_true rfl) (mm_vs_b (b := 77) rfl (hp_len dy)) (fun v h' hqq => ?_)
    obtain ⟨rfl, hqe⟩ := hqq; rw [hqe]
    rw [is_ok a4 f (nI (2 * x + 2))]
    by_cases hst : st_ f (nI (2 * x + 2)) p.2.1
    · rw [if_pos hst]
      obtain ⟨i, hi, rfl⟩ := nI_of hst.1
      have hix : i + (2 * x + 2) ≤ p.2.1 := (st_e hi (by omega)).mp hst
      have he : clp_ p (nI i) (m + 1) x c A = (fun q : Int32 × sA => clp_ p (nI i) m (x + 1) (if q.1 < 0 then c else c + 1) q.2) (an_child A (p.2.2 (i + 2 * x)) (p.2.2 (i + 2 * x + 1))) := by
        show (if _ then _ else _) = _
        rw [if_pos hst, nI_clamp hi]
      rw [he]
      have e1 : nI i + 2 * nI x = nI (i + 2 * x) := by rw [x2_, nI_add]
      refine mm_I ok_Sc_children 47 0 84 [some (.ref 0), some (.int (nI k)), some (.int t), some (.int (nI i)), some (.int (nI M)), some (.int (nI c)), some (.int (nI x)), none] [.int 1] (hp_SH ++ dy, g1, r1) [] rfl trivial rfl rfl (fun _ => ?_) (fun q => False.elim (absurd q (by decide)))
      refine mm_B ok_Sc_children 50 4 (96, [some (.ref 0), some (.int (nI k)), some (.int t), some (.int (nI i)), some (.int (nI M)), some (.int (nI c)), some (.int (nI x)), none], [.int (nI k), .ref 45, .ref 0], (hp_SH ++ dy, g1, r1)) [] rfl trivial ?_
      refine mm_aald (t := 4) (n := 4) (v := .ref (46 + k)) (Or.inr (Or.inr rfl)) ((hp_at dy (by decide)).trans rfl) (nI_vi hk (by decide)) (rf_46 hk (by show g1 45 (nI k).toNatClampNeg = _; rw [hlk]; exact e45)) (mm_at ok_Sc_children (i := 54) rfl).1 ?_
      refine mm_B ok_Sc_children 55 5 (103, [some (.ref 0), some (.int (nI k)), some (.int t), some (.int (nI i)), some (.int (nI M)), some (.int (nI c)), some (.int (nI x)), none], [.int ((nI i) + (2 * (nI x))), .ref (46 + k), .ref 0], (hp_SH ++ dy, g1, r1)) [] rfl trivial ?_
      rw [e1]
      refine mm_iald (sh_46 hk) (nI_vi (show i + 2 * x < 40 by omega) (by decide)) (mm_at ok_Sc_children (i := 60) rfl).1 ?_
      show mm_W _ _ _ _ _ _ _ (104, [some (.ref 0), some (.int (nI k)), some (.int t), some (.int (nI i)), some (.int (nI M)), some (.int (nI c)), some (.int (nI x)), none], [.int (g1 (46 + k) ((nI (i + 2 * x)).toNatClampNeg)), .ref 0], (hp_SH ++ dy, g1, r1))
      rw [nI_clamp (show i + 2 * x < 2 ^ 31 by omega), a5 (i + 2 * x) (by omega)]
      refine mm_B ok_Sc_children 61 3 (109, [some (.ref 0), some (.int (nI k)), some (.int t), some (.int (nI i)), some (.int (nI M)), some (.int (nI c)), some (.int (nI x)), none], [.int (nI k), .ref 45, .int (p.2.2 (i + 2 * x)), .ref 0], (hp_SH ++ dy, g1, r1)) [] rfl trivial ?_
      refine mm_aald (t := 4) (n := 4) (v := .ref (46 + k)) (Or.inr (Or.inr rfl)) ((hp_at dy (by decide)).trans rfl) (nI_vi hk (by decide)) (rf_46 hk (by show g1 45 (nI k).toNatClampNeg = _; rw [hlk]; exact e45)) (mm_at ok_Sc_children (i := 64) rfl).1 ?_
      refine mm_B ok_Sc_children 65 7 (118, [some (.ref 0), some (.int (nI k)), some (.int t), some (.int (nI i)), some (.int (nI M)), some (.int (nI c)), some (.int (nI x)), none], [.int (((nI i) + (2 * (nI x))) + 1), .ref (46 + k), .int (p.2.2 (i + 2 * x)), .ref 0], (hp_SH ++ dy, g1, r1)) [] rfl trivial ?_
      rw [e1, nI_1]
      refine mm_iald (sh_46 hk) (nI_vi (show i + 2 * x + 1 < 40 by omega) (by decide)) (mm_at ok_Sc_children (i := 72) rfl).1 ?_
      show mm_W _ _ _ _ _ _ _ (119, [some (.ref 0), some (.int (nI k)), some (.int t), some (.int (nI i)), some (.int (nI M)), some (.int (nI c)), some (.int (nI x)), none], [.int (g1 (46 + k) ((nI (i + 2 * x + 1)).toNatClampNeg)), .int (p.2.2 (i + 2 * x)), .ref 0], (hp_SH ++ dy, g1, r1))
      rw [nI_clamp (show i + 2 * x + 1 < 2 ^ 31 by omega), a5 (i + 2 * x + 1) (by omega)]
      refine mm_cV (as := [.int (p.2.2 (i + 2 * x)), .int (p.2.2 (i + 2 * x + 1))]) (st := []) (q := 0) cw_Sc_bring lk_Sc_90 in_Sc_bring sl_Sc_bring rfl rfl (mm_at ok_Sc_children (i := 73) rfl).1 (cc_brink dy g1 r1 hI (p.2.2 (i + 2 * x)) (p.2.2 (i + 2 * x + 1))) (by decide) ⟨by omega, by omega⟩ (Nat.le_of_ble_eq_true rfl) (mm_vs_b (b := 77) rfl (hp_len dy)) (fun v h' hqq => ?_)
      obtain ⟨rfl, g2, r2, hqe, hr2, hI2, hF2⟩ := hqq; rw [hqe]
      have hsh := ch_sh A (p.2.2 (i + 2 * x)) (p.2.2 (i + 2 * x + 1))
      generalize hQ : an_child A (p.2.2 (i + 2 * x)) (p.2.2 (i + 2 * x + 1)) = Q at hI2 hsh ⊢
      by_cases hc : Q.1 < 0
      · have ih' := ih (x + 1) c Q.2 g2 r2 (by omega) hI2 (by rw [hsh]; exact hp) (hr2.trans hr) (fun a j h1 h2 => (hF2 a j h1 h2).trans (hF a j h1 h2))
        show mm_W _ _ _ _ (RC dy g r (clp_ p (nI i) m (x + 1) (if Q.1 < 0 then c else c + 1) Q.2).2 (.int (clp_ p (nI i) m (x + 1) (if Q.1 < 0 then c else c + 1) Q.2).1)) _ _ _
        rw [if_pos hc]
        refine mm_I ok_Sc_children 74 2 126 [some (.ref 0), some (.int (nI k)), some (.int t), some (.int (nI i)), some (.int (nI M)), some (.int (nI c)), some (.int (nI x)), some (.int Q.1)] [.int Q.1] (hp_SH ++ dy, g2, r2) [] rfl trivial rfl rfl (fun _ => ?_) (fun q => False.elim (q hc))
        refine mm_B ok_Sc_children 81 4 (61, [some (.ref 0), some (.int (nI k)), some (.int t), some (.int (nI i)), some (.int (nI M)), some (.int (nI c)), some (.int ((nI x) + 1)), some (.int Q.1)], [], (hp_SH ++ dy, g2, r2)) [] rfl trivial ?_
        refine mm_fg [7] ?_
        rw [nI_1]
        exact ih'
      · have ih' := ih (x + 1) (c + 1) Q.2 g2 r2 (by omega) hI2 (by rw [hsh]; exact hp) (hr2.trans hr) (fun a j h1 h2 => (hF2 a j h1 h2).trans (hF a j h1 h2))
        show mm_W _ _ _ _ (RC dy g r (clp_ p (nI i) m (x + 1) (if Q.1 < 0 then c else c + 1) Q.2).2 (.int (clp_ p (nI i) m (x + 1) (if Q.1 < 0 then c else c + 1) Q.2).1)) _ _ _
        rw [if_neg hc]
        refine mm_I ok_Sc_children 74 2 126 [some (.ref 0), some (.int (nI k)), some (.int t), some (.int (nI i)), some (.int (nI M)), some (.int (nI c)), some (.int (nI x)), some (.int Q.1)] [.int Q.1] (hp_SH ++ dy, g2, r2) [] rfl trivial rfl rfl (fun q => False.elim (hc q)) (fun _ => ?_)
        refine mm_B ok_Sc_children 77 4 (138, [some (.ref 0), some (.int (nI k)), some (.int t), some (.int (nI i)), some (.int (nI M)), some (.int (nI c)), some (.int (nI x)), some (.int Q.1)], [.int ((nI c) + 1)], (hp_SH ++ dy, g2, r2)) [] rfl trivial ?_
        refine mm_B ok_Sc_children 82 3 (61, [some (.ref 0), some (.int (nI k)), some (.int t), some (.int (nI i)), some (.int (nI M)), some (.int ((nI c) + 1)), some (.int ((nI x) + 1)), some (.int Q.1)], [], (hp_SH ++ dy, g2, r2)) [] rfl trivial ?_
        refine mm_fg [7] ?_
        rw [nI_1 c, nI_1 x]
        exact ih'
    · rw [if_neg hst, show clp_ p f (m + 1) x c A = (-12, A) from if_neg hst]
      refine mm_I ok_Sc_children 47 0 84 [some (.ref 0), some (.int (nI k)), some (.int t), some (.int f), some (.int (nI M)), some (.int (nI c)), some (.int (nI x)), none] [.int 0] (hp_SH ++ dy, g1, r1) [] rfl trivial rfl rfl (fun q => False.elim (q rfl)) (fun _ => ?_)
      refine mm_B ok_Sc_children 48 1 (89, [some (.ref 0), some (.int (nI k)), some (.int t), some (.int f), some (.int (nI M)), some (.int (nI c)), some (.int (nI x)), none], [.int (-12)], (hp_SH ++ dy, g1, r1)) [] rfl trivial ?_
      exact mm_ri rfl (mm_at ok_Sc_children (i := 49) rfl).1 ⟨Nat.le_refl _, Nat.le_refl _⟩ (RC_g hr hI hF)
theorem cc_children (dy : List mm_Sh) (g : Nat → Nat → Int32) (r : (Nat → Nat → Int64) × Nat × (Nat → Int32)) {A : sA} (hI : CI dy (nr_ g) A) (hSI : SI A) (s t f n : Int32) : mm_Ct 12 M_Sc_children [.ref 0, .int s, .int t, .int f, .int n] (hp_SH ++ dy, g, r) 0 0 (RC dy g r (an_children A s t f n).2 (.int (an_children A s t f n).1)) := by
  have hI' := hI
  obtain ⟨hL, hK, hPl, hX, hB, hS, hIm, hFd, hW⟩ := hI'
  have hR := cX_R hX
  have h4 := hL.2.1
  have h16 := p2_16 h4
  have h6 := hK.2.1
  have e20 : g 2 0 = nI A.1.1 := by rw [← nr_eq g (k := 2) (j := 0) rfl]; exact hL.1
  have e21 : g 2 1 = nI A.2.1.1 := by rw [← nr_eq g (k := 2) (j := 1) rfl]; exact hK.1
  have hpa : (hp_SH ++ dy)[9]? = some (.inl (0, 6)) := (hp_at dy (by decide)).trans rfl
  have hpl : ∀ b, b < 6 → g 9 b = pl_c (A.2.2.1.1 b) := fun b hb => by rw [← nr_eq g (k := 9) (j := b) rfl]; exact (hPl b hb).1
  have hot : ∀ b, b < 6 → g 10 b = pl_c (A.2.2.1.2 b) := fun b hb => by rw [← nr_eq g (k := 10) (j := b) rfl]; exact (hPl b hb).2
  have hpo : ∀ b l, b < 6 → A.2.2.1.1 b = some l → l < A.1.1 := fun b l hb h => hSI.1 b l hb (Or.inl h)
  refine mm_start pl_Sc (Nat.le_of_ble_eq_true rfl) ?_
  cases hx1 : ix_ 4 s with
  | none =>
    rw [show an_children A s t f n = (-2, A) by unfold an_children; rw [hx1]]
    refine mm_B ok_Sc_children 0 1 (1, [some (.ref 0), some (.int s), some (.int t), some (.int f), some (.int n), none, none, none], [.int s], (hp_SH ++ dy, g, r)) [] rfl trivial ?_
    refine mm_cS (as := [.int s]) (st := []) cw_Sc_isSheet lk_Sc_264 sx_Sc_isSheet (mm_at ok_Sc_children (i := 1) rfl).1 (ct_Sc_isSheet (hp_SH ++ dy, g, r) s) (by decide) ⟨by omega, by omega⟩ (Nat.le_of_ble_eq_true rfl) (mm_vs_b (b := 77) rfl (hp_len dy)) (fun v h' hqq => ?_)
    obtain ⟨rfl, hqe⟩ := hqq; rw [hqe]
    rw [sx_ s, hx1]
    refine mm_I ok_Sc_children 2 0 4 [some (.ref 0), some (.int s), some (.int t), some (.int f), some (.int n), none, none, none] [.int (iz_ none)] (hp_SH ++ dy, g, r) [] rfl trivial rfl rfl (fun _ => ?_) (fun q => False.elim (q rfl))
    refine mm_B ok_Sc_children 11 1 (28, [some (.ref 0), some (.int s), some (.int t), some (.int f), some (.int n), none, none, none], [.int (-2)], (hp_SH ++ dy, g, r)) [] rfl trivial ?_
    exact mm_ri rfl (mm_at ok_Sc_children (i := 12) rfl).1 ⟨Nat.le_refl _, Nat.le_refl _⟩ (RC_q rfl hI fr_.rf)
  | some k =>
    obtain ⟨hl1, rfl⟩ := ix_some (by omega) hx1
    cases hx2 : ix_ 3 t with
    | none =>
      rw [show an_children A (nI k) t f n = (-2, A) by unfold an_children; rw [hx1, hx2]]
      refine mm_B ok_Sc_children 0 1 (1, [some (.ref 0), some (.int (nI k)), some (.int t), some (.int f), some (.int n), none, none, none], [.int (nI k)], (hp_SH ++ dy, g, r)) [] rfl trivial ?_
      refine mm_cS (as := [.int (nI k)]) (st := []) cw_Sc_isSheet lk_Sc_264 sx_Sc_isSheet (mm_at ok_Sc_children (i := 1) rfl).1 (ct_Sc_isSheet (hp_SH ++ dy, g, r) (nI k)) (by decide) ⟨by omega, by omega⟩ (Nat.le_of_ble_eq_true rfl) (mm_vs_b (b := 77) rfl (hp_len dy)) (fun v h' hqq => ?_)
      obtain ⟨rfl, hqe⟩ := hqq; rw [hqe]
      rw [sx_ (nI k), ix_at hl1 (by omega)]
      refine mm_I ok_Sc_children 2 0 4 [some (.ref 0), some (.int (nI k)), some (.int t), some (.int f), some (.int n), none, none, none] [.int (iz_ (some k))] (hp_SH ++ dy, g, r) [] rfl trivial rfl rfl (fun q => False.elim (one0 q)) (fun _ => ?_)
      refine mm_B ok_Sc_children 3 1 (8, [some (.ref 0), some (.int (nI k)), some (.int t), some (.int f), some (.int n), none, none, none], [.int t], (hp_SH ++ dy, g, r)) [] rfl trivial ?_
      refine mm_cS (as := [.int t]) (st := []) cw_Sc_isSort lk_Sc_267 sx_Sc_isSort (mm_at ok_Sc_children (i := 4) rfl).1 (ct_Sc_isSort (hp_SH ++ dy, g, r) t) (by decide) ⟨by omega, by omega⟩ (Nat.le_of_ble_eq_true rfl) (mm_vs_b (b := 77) rfl (hp_len dy)) (fun v h' hqq => ?_)
      obtain ⟨rfl, hqe⟩ := hqq; rw [hqe]
      rw [ox_ t, hx2]
      refine mm_I ok_Sc_children 5 0 11 [some (.ref 0), some (.int (nI k)), some (.int t), some (.int f), some (.int n), none, none, none] [.int (iz_ none)] (hp_SH ++ dy, g, r) [] rfl trivial rfl rfl (fun _ => ?_) (fun q => False.elim (q rfl))
      refine mm_B ok_Sc_children 11 1 (28, [some (.ref 0), some (.int (nI k)), some (.int t), some (.int f), some (.int n), none, none, none], [.int (-2)], (hp_SH ++ dy, g, r)) [] rfl trivial ?_
      exact mm_ri rfl (mm_at ok_Sc_children (i := 12) rfl).1 ⟨Nat.le_refl _, Nat.le_refl _⟩ (RC_q rfl hI fr_.rf)
    | some j =>
      obtain ⟨hl2, rfl⟩ := ix_some (by omega) hx2
      cases hx3 : ix_ 7 n with
      | none =>
        rw [show an_children A (nI k) (nI j) f n = (-2, A) by unfold an_children; rw [hx1, hx2, hx3]]
        refine mm_B ok_Sc_children 0 1 (1, [some (.ref 0), some (.int (nI k)), some (.int (nI j)), some (.int f), some (.int n), none, none, none], [.int (nI k)], (hp_SH ++ dy, g, r)) [] rfl trivial ?_
        refine mm_cS (as := [.int (nI k)]) (st := []) cw_Sc_isSheet lk_Sc_264 sx_Sc_isSheet (mm_at ok_Sc_children (i := 1) rfl).1 (ct_Sc_isSheet (hp_SH ++ dy, g, r) (nI k)) (by decide) ⟨by omega, by omega⟩ (Nat.le_of_ble_eq_true rfl) (mm_vs_b (b := 77) rfl (hp_len dy)) (fun v h' hqq => ?_)
        obtain ⟨rfl, hqe⟩ := hqq; rw [hqe]
        rw [sx_ (nI k), ix_at hl1 (by omega)]
        refine mm_I ok_Sc_children 2 0 4 [some (.ref 0), some (.int (nI k)), some (.int (nI j)), some (.int f), some (.int n), none, none, none] [.int (iz_ (some k))] (hp_SH ++ dy, g, r) [] rfl trivial rfl rfl (fun q => False.elim (one0 q)) (fun _ => ?_)
        refine mm_B ok_Sc_children 3 1 (8, [some (.ref 0), some (.int (nI k)), some (.int (nI j)), some (.int f), some (.int n), none, none, none], [.int (nI j)], (hp_SH ++ dy, g, r)) [] rfl trivial ?_
        refine mm_cS (as := [.int (nI j)]) (st := []) cw_Sc_isSort lk_Sc_267 sx_Sc_isSort (mm_at ok_Sc_children (i := 4) rfl).1 (ct_Sc_isSort (hp_SH ++ dy, g, r) (nI j)) (by decide) ⟨by omega, by omega⟩ (Nat.le_of_ble_eq_true rfl) (mm_vs_b (b := 77) rfl (hp_len dy)) (fun v h' hqq => ?_)
        obtain ⟨rfl, hqe⟩ := hqq; rw [hqe]
        rw [ox_ (nI j), ix_at hl2 (by omega)]
        refine mm_I ok_Sc_children 5 0 11 [some (.ref 0), some (.int (nI k)), some (.int (nI j)), some (.int f), some (.int n), none, none, none] [.int (iz_ (some j))] (hp_SH ++ dy, g, r) [] rfl trivial rfl rfl (fun q => False.elim (one0 q)) (fun _ => ?_)
        rcases g1_n (by decide) hx3 with hr | hr
        · refine mm_I ok_Sc_children 6 1 16 [some (.ref 0), some (.int (nI k)), some (.int (nI j)), some (.int f), some (.int n), none, none, none] [.int n] (hp_SH ++ dy, g, r) [] rfl trivial rfl rfl (fun _ => ?_) (fun q => False.elim (q hr))
          refine mm_B ok_Sc_children 11 1 (28, [some (.ref 0), some (.int (nI k)), some (.int (nI j)), some (.int f), some (.int n), none, none, none], [.int (-2)], (hp_SH ++ dy, g, r)) [] rfl trivial ?_
          exact mm_ri rfl (mm_at ok_Sc_children (i := 12) rfl).1 ⟨Nat.le_refl _, Nat.le_refl _⟩ (RC_q rfl hI fr_.rf)
        · refine mm_I ok_Sc_children 6 1 16 [some (.ref 0), some (.int (nI k)), some (.int (nI j)), some (.int f), some (.int n), none, none, none] [.int n] (hp_SH ++ dy, g, r) [] rfl trivial rfl rfl (fun q => False.elim (absurd (Int32.lt_trans hr q) (by decide))) (fun _ => ?_)
          refine mm_I ok_Sc_children 8 2 23 [some (.ref 0), some (.int (nI k)), some (.int (nI j)), some (.int f), some (.int n), none, none, none] [.int 6, .int n] (hp_SH ++ dy, g, r) [] rfl trivial rfl rfl (fun q => False.elim (absurd hr (Int32.not_lt.mpr q))) (fun _ => ?_)
          refine mm_B ok_Sc_children 11 1 (28, [some (.ref 0), some (.int (nI k)), some (.int (nI j)), some (.int f), some (.int n), none, none, none], [.int (-2)], (hp_SH ++ dy, g, r)) [] rfl trivial ?_
          exact mm_ri rfl (mm_at ok_Sc_children (i := 12) rfl).1 ⟨Nat.le_refl _, Nat.le_refl _⟩ (RC_q rfl hI fr_.rf)
      | some m =>
        obtain ⟨hl3, rfl⟩ := ix_some (by omega) hx3
        have hlk := nI_clamp (show k < 2 ^ 31 by omega)
        obtain ⟨e45k, hsk⟩ := cS_1 hS hl1
        have hsk := cs1_at (cs1_g hl1 hsk)
        have hun : an_children A (nI k) (nI j) f (nI m) = (match A.2.2.2.2.2.1 k with | none => (-11, A) | some p => if p.1 = j then clp_ p f m 0 0 A else (-13, A)) := by unfold an_children; rw [hx1, hx2, hx3]
        refine mm_B ok_Sc_children 0 1 (1, [some (.ref 0), some (.int (nI k)), some (.int (nI j)), some (.int f), some (.int (nI m)), none, none, none], [.int (nI k)], (hp_SH ++ dy, g, r)) [] rfl trivial ?_
        refine mm_cS (as := [.int (nI k)]) (st := []) cw_Sc_isSheet lk_Sc_264 sx_Sc_isSheet (mm_at ok_Sc_children (i := 1) rfl).1 (ct_Sc_isSheet (hp_SH ++ dy, g, r) (nI k)) (by decide) ⟨by omega, by omega⟩ (Nat.le_of_ble_eq_true rfl) (mm_vs_b (b := 77) rfl (hp_len dy)) (fun v h' hqq => ?_)
        obtain ⟨rfl, hqe⟩ := hqq; rw [hqe]
        rw [sx_ (nI k), ix_at hl1 (by omega)]
        refine mm_I ok_Sc_children 2 0 4 [some (.ref 0), some (.int (nI k)), some (.int (nI j)), some (.int f), some (.int (nI m)), none, none, none] [.int (iz_ (some k))] (hp_SH ++ dy, g, r) [] rfl trivial rfl rfl (fun q => False.elim (one0 q)) (fun _ => ?_)
        refine mm_B ok_Sc_children 3 1 (8, [some (.ref 0), some (.int (nI k)), some (.int (nI j)), some (.int f), some (.int (nI m)), none, none, none], [.int (nI j)], (hp_SH ++ dy, g, r)) [] rfl trivial ?_
        refine mm_cS (as := [.int (nI j)]) (st := []) cw_Sc_isSort lk_Sc_267 sx_Sc_isSort (mm_at ok_Sc_children (i := 4) rfl).1 (ct_Sc_isSort (hp_SH ++ dy, g, r) (nI j)) (by decide) ⟨by omega, by omega⟩ (Nat.le_of_ble_eq_true rfl) (mm_vs_b (b := 77) rfl (hp_len dy)) (fun v h' hqq => ?_)
        obtain ⟨rfl, hqe⟩ := hqq; rw [hqe]
        rw [ox_ (nI j), ix_at hl2 (by omega)]
        refine mm_I ok_Sc_children 5 0 11 [some (.ref 0), some (.int (nI k)), some (.int (nI j)), some (.int f), some (.int (nI m)), none, none, none] [.int (iz_ (some j))] (hp_SH ++ dy, g, r) [] rfl trivial rfl rfl (fun q => False.elim (one0 q)) (fun _ => ?_)
        refine mm_I ok_Sc_children 6 1 16 [some (.ref 0), some (.int (nI k)), some (.int (nI j)), some (.int f), some (.int (nI m)), none, none, none] [.int (nI m)] (hp_SH ++ dy, g, r) [] rfl trivial rfl rfl (fun q => False.elim (nI_pos (n := m) (by omega) q)) (fun _ => ?_)
        refine mm_I ok_Sc_children 8 2 23 [some (.ref 0), some (.int (nI k)), some (.int (nI j)), some (.int f), some (.int (nI m)), none, none, none] [.int 6, .int (nI m)] (hp_SH ++ dy, g, r) [] rfl trivial rfl rfl (fun _ => ?_) (fun q => False.elim (q (nI_le (b := 6) (by omega) (by decide))))
        refine mm_B ok_Sc_children 13 5 (36, [some (.ref 0), some (.int (nI k)), some (.int (nI j)), some (.int f), some (.int (nI m)), none, none, none], [.int (-1), .int (g 51 ((nI k).toNatClampNeg))], (hp_SH ++ dy, g, r)) [vp_in (nI k) 4] rfl (show vp_in (nI k) 4 from (nI_vi hl1 (by decide))) ?_
        rw [hlk]
        rcases hsk with ⟨hk, a1⟩ | ⟨p, hp, a1, a2, a3, a4, a5⟩
        · rw [hun, hk]
          refine mm_I ok_Sc_children 18 0 36 [some (.ref 0), some (.int (nI k)), some (.int (nI j)), some (.int f), some (.int (nI m)), none, none, none] [.int (-1), .int (g 51 (k))] (hp_SH ++ dy, g, r) [] rfl trivial rfl rfl (fun q => False.elim (q a1)) (fun _ => ?_)
          refine mm_B ok_Sc_children 19 1 (41, [some (.ref 0), some (.int (nI k)), some (.int (nI j)), some (.int f), some (.int (nI m)), none, none, none], [.int (-11)], (hp_SH ++ dy, g, r)) [] rfl trivial ?_
          exact mm_ri rfl (mm_at ok_Sc_children (i := 20) rfl).1 ⟨Nat.le_refl _, Nat.le_refl _⟩ (RC_q rfl hI fr_.rf)
        · rw [hp] at hun
          rw [hun]
          show mm_W _ _ _ _ (RC dy g r (if p.1 = j then clp_ p f m 0 0 A else (-13, A)).2 (.int (if p.1 = j then clp_ p f m 0 0 A else (-13, A)).1)) _ _ _
          refine mm_I ok_Sc_children 18 0 36 [some (.ref 0), some (.int (nI k)), some (.int (nI j)), some (.int f), some (.int (nI m)), none, none, none] [.int (-1), .int (g 51 (k))] (hp_SH ++ dy, g, r) [] rfl trivial rfl rfl (fun _ => ?_) (fun q => False.elim (m1_ne (l := p.1) (by omega) (a1.symm.trans q)))
          refine mm_B ok_Sc_children 21 5 (49, [some (.ref 0), some (.int (nI k)), some (.int (nI j)), some (.int f), some (.int (nI m)), none, none, none], [.int (nI j), .int (g 51 ((nI k).toNatClampNeg))], (hp_SH ++ dy, g, r)) [vp_in (nI k) 4] rfl (show vp_in (nI k) 4 from (nI_vi hl1 (by decide))) ?_
          rw [hlk, a1]
          by_cases hs : p.1 = j
          · rw [if_pos hs]
            refine mm_I ok_Sc_children 26 0 49 [some (.ref 0), some (.int (nI k)), some (.int (nI j)), some (.int f), some (.int (nI m)), none, none, none] [.int (nI j), .int (nI p.1)] (hp_SH ++ dy, g, r) [] rfl trivial rfl rfl (fun _ => ?_) (fun q => False.elim (q (congrArg nI hs)))
            refine mm_B ok_Sc_children 29 4 (61, [some (.ref 0), some (.int (nI k)), some (.int (nI j)), some (.int f), some (.int (nI m)), some (.int 0), some (.int 0), none], [], (hp_SH ++ dy, g, r)) [] rfl trivial ?_
            exact cch_go dy g r hl1 hl3 (nI j) f m 0 0 A g r (Nat.zero_add _) hI hp rfl (fun _ _ _ _ => rfl)
          · rw [if_neg hs]
            refine mm_I ok_Sc_children 26 0 49 [some (.ref 0), some (.int (nI k)), some (.int (nI j)), some (.int f), some (.int (nI m)), none, none, none] [.int (nI j), .int (nI p.1)] (hp_SH ++ dy, g, r) [] rfl trivial rfl rfl (fun q => False.elim (hs ((nI_eq (by omega) (by omega)).mp q))) (fun _ => ?_)
            refine mm_B ok_Sc_children 27 1 (54, [some (.ref 0), some (.int (nI k)), some (.int (nI j)), some (.int f), some (.int (nI m)), none, none, none], [.int (-13)], (hp_SH ++ dy, g, r)) [] rfl trivial ?_
            exact mm_ri rfl (mm_at ok_Sc_children (i := 28) rfl).1 ⟨Nat.le_refl _, Nat.le_refl _⟩ (RC_q rfl hI fr_.rf)
theorem i32_ss (a b c : Int32) : a - b - c = a - (b + c) := by
  rw [Int32.sub_eq_add_neg, Int32.sub_eq_add_neg a b, Int32.sub_eq_add_neg a (b + c), Int32.neg_add, Int32.sub_eq_add_neg (-b) c, Int32.add_assoc]
theorem sb2 (S x : Nat) : nI S - nI x - 2 = nI S - nI (x + 2) := by
  rw [← nI_add x 2]
  exact i32_ss _ _ _
theorem cmh_go (dy : List mm_Sh) (g : Nat → Nat → Int32) (r : (Nat → Nat → Int64) × Nat × (Nat → Int32)) {k M : Nat} (hk : k < 4) (hM : M < 7) {p : Nat × Nat × (Nat → Int32)} (t f : Int32) : ∀ (m x c : Nat) (A : sA) (g1 : Nat → Nat → Int32) (r1 : (Nat → Nat → Int64) × Nat × (Nat → Int32)), x + m = M → MI (nr_ g1) A → A.2.2.2.2.2.1 k = some p → r1.2 = r.2 → (∀ a j, (a < 52 ∨ 76 < a) → g1 a j = g a j) → mm_W 14 M_Mo_children 0 0 (RM dy g r (clp_ p f m x c A).2 (.int (clp_ p f m x c A).1)) 0 0 (75, [some (.ref 52), some (.int (nI k)), some (.int t), some (.int f), some (.int (nI M)), some (.int (nI c)), some (.int (nI x)), none], [], (hp_SH ++ dy, g1, r1)) := by
  have hlk := nI_clamp (show k < 2 ^ 31 by omega)
  intro m
  induction m with
  | zero =>
    intro x c A g1 r1 hx hI hp hr hF
    have hx : x = M := by omega
    subst hx
    refine mm_I ok_Mo_children 41 2 79 [some (.ref 52), some (.int (nI k)), some (.int t), some (.int f), some (.int (nI x)), some (.int (nI c)), some (.int (nI x)), none] [.int (nI x), .int (nI x)] (hp_SH ++ dy, g1, r1) [] rfl trivial rfl rfl (fun _ => ?_) (fun q => False.elim (q (Int32.le_refl _)))
    refine mm_B ok_Mo_children 91 1 (160, [some (.ref 52), some (.int (nI k)), some (.int t), some (.int f), some (.int (nI x)), some (.int (nI c)), some (.int (nI x)), none], [.int (nI c)], (hp_SH ++ dy, g1, r1)) [] rfl trivial ?_
    exact mm_ri rfl (mm_at ok_Mo_children (i := 92) rfl).1 ⟨Nat.le_refl _, Nat.le_refl _⟩ (RM_g hr hI hF)
  | succ m ih =>
    intro x c A g1 r1 hx hI hp hr hF
    have hs1 := ds1_g (dS_1 hI.2.2.2.2.2.1 hk)
    rw [hp] at hs1
    obtain ⟨a0, a1, a2, a3, a4, a5⟩ := hs1
    refine mm_I ok_Mo_children 41 2 79 [some (.ref 52), some (.int (nI k)), some (.int t), some (.int f), some (.int (nI M)), some (.int (nI c)), some (.int (nI x)), none] [.int (nI M), .int (nI x)] (hp_SH ++ dy, g1, r1) [] rfl trivial rfl rfl (fun q => False.elim (absurd q (Int32.not_le.mpr (nI_lt (by omega) (by omega))))) (fun _ => ?_)
    have hbad : ¬ st_ f (nI (2 * x + 2)) p.2.1 → mm_W 14 M_Mo_children 0 0 (RM dy g r (clp_ p f (m + 1) x c A).2 (.int (clp_ p f (m + 1) x c A).1)) 0 0 (103, [some (.ref 52), some (.int (nI k)), some (.int t), some (.int f), some (.int (nI M)), some (.int (nI c)), some (.int (nI x)), none], [], (hp_SH ++ dy, g1, r1)) := fun hst => by
      rw [show clp_ p f (m + 1) x c A = (-12, A) from if_neg hst]
      refine mm_B ok_Mo_children 58 1 (105, [some (.ref 52), some (.int (nI k)), some (.int t), some (.int f), some (.int (nI M)), some (.int (nI c)), some (.int (nI x)), none], [.int (-12)], (hp_SH ++ dy, g1, r1)) [] rfl trivial ?_
      exact mm_ri rfl (mm_at ok_Mo_children (i := 59) rfl).1 ⟨Nat.le_refl _, Nat.le_refl _⟩ (RM_g hr hI hF)
    by_cases hf0 : f < 0
    · refine mm_I ok_Mo_children 44 1 83 [some (.ref 52), some (.int (nI k)), some (.int t), some (.int f), some (.int (nI M)), some (.int (nI c)), some (.int (nI x)), none] [.int f] (hp_SH ++ dy, g1, r1) [] rfl trivial rfl rfl (fun _ => ?_) (fun q => False.elim (q hf0))
      exact hbad (fun h => h.1 hf0)
    · obtain ⟨i, hi, rfl⟩ := nI_of hf0
      refine mm_I ok_Mo_children 44 1 83 [some (.ref 52), some (.int (nI k)), some (.int t), some (.int (nI i)), some (.int (nI M)), some (.int (nI c)), some (.int (nI x)), none] [.int (nI i)] (hp_SH ++ dy, g1, r1) [] rfl trivial rfl rfl (fun q => False.elim (hf0 q)) (fun _ => ?_)
      refine mm_B ok_Mo_children 46 11 (100, [some (.ref 52), some (.int (nI k)), some (.int t), some (.int (nI i)), some (.int (nI M)), some (.int (nI c)), some (.int (nI x)), none], [.int (((g1 75 ((nI k).toNatClampNeg)) - (2 * (nI x))) - 2), .int (nI i)], (hp_SH ++ dy, g1, r1)) [vp_in (nI k) 4] rfl (show vp_in (nI k) 4 from (nI_vi hk (by decide))) ?_
      rw [hlk, a3, x2_, sb2]
      by_cases hst : i + (2 * x + 2) ≤ p.2.1
      · have he : clp_ p (nI i) (m + 1) x c A = (fun q : Int32 × sA => clp_ p (nI i) m (x + 1) (if q.1 < 0 then c else c + 1) q.2) (an_child A (p.2.2 (i + 2 * x)) (p.2.2 (i + 2 * x + 1))) := by
          show (if _ then _ else _) = _
          rw [if_pos ((st_e hi (by omega)).mpr hst), nI_clamp hi]
        rw [he]
        have e1 : (40 : Int32) * nI k + nI i + 2 * nI x = nI (40 * k + (i + 2 * x)) := by rw [show (40 : Int32) * nI k = nI (40 * k) from (Int32.ofNat_mul 40 k).symm, x2_, nI_add, nI_add, Nat.add_assoc]
        refine mm_I ok_Mo_children 57 0 100 [some (.ref 52), some (.int (nI k)), some (.int t), some (.int (nI i)), some (.int (nI M)), some (.int (nI c)), some (.int (nI x)), none] [.int (nI p.2.1 - nI (2 * x + 2)), .int (nI i)] (hp_SH ++ dy, g1, r1) [] rfl trivial rfl rfl (fun _ => ?_) (fun q => False.elim (q (Int32.not_lt.mp (mt (sb_lt a4 (by omega) hi).mp (by omega)))))
        refine mm_B ok_Mo_children 60 22 (138, [some (.ref 52), some (.int (nI k)), some (.int t), some (.int (nI i)), some (.int (nI M)), some (.int (nI c)), some (.int (nI x)), some (.int (((40 * (nI k)) + (nI i)) + (2 * (nI x))))], [.int (g1 76 (((((40 * (nI k)) + (nI i)) + (2 * (nI x))) + 1).toNatClampNeg)), .int (g1 76 ((((40 * (nI k)) + (nI i)) + (2 * (nI x))).toNatClampNeg)), .ref 52, .int (nI c)], (hp_SH ++ dy, g1, r1)) [vp_in (((40 * (nI k)) + (nI i)) + (2 * (nI x))) 160, vp_in ((((40 * (nI k)) + (nI i)) + (2 * (nI x))) + 1) 160] rfl (show (vp_in (((40 * (nI k)) + (nI i)) + (2 * (nI x))) 160) ∧ (vp_in ((((40 * (nI k)) + (nI i)) + (2 * (nI x))) + 1) 160) from ⟨((by first | (rw [e1]; exact nI_vi (by omega) (by decide)) | (rw [e1, nI_1]; exact nI_vi (by omega) (by decide)))), ((by first | (rw [e1]; exact nI_vi (by omega) (by decide)) | (rw [e1, nI_1]; exact nI_vi (by omega) (by decide))))⟩) ?_
        rw [e1, nI_1, nI_clamp (show 40 * k + (i + 2 * x) < 2 ^ 31 by omega), nI_clamp (show 40 * k + (i + 2 * x) + 1 < 2 ^ 31 by omega), a5 (i + 2 * x) (by omega), show g1 76 (40 * k + (i + 2 * x) + 1) = p.2.2 (i + 2 * x + 1) from a5 (i + 2 * x + 1) (by omega)]
        refine mm_cV (as := [.int (p.2.2 (i + 2 * x)), .int (p.2.2 (i + 2 * x + 1))]) (st := [.int (nI c)]) (q := 52) cw_Mo_child lk_Mo_354 in_Mo_child sl_Mo_child rfl rfl (mm_at ok_Mo_children (i := 82) rfl).1 (cm_child dy g1 r1 hI (p.2.2 (i + 2 * x)) (p.2.2 (i + 2 * x + 1))) (by decide) ⟨by omega, by omega⟩ (Nat.le_of_ble_eq_true rfl) (mm_vs_b (b := 77) rfl (hp_len dy)) (fun v h' hqq => ?_)
        obtain ⟨rfl, g2, r2, hqe, hr2, hI2, hF2⟩ := hqq; rw [hqe]
        have hsh := ch_sh A (p.2.2 (i + 2 * x)) (p.2.2 (i + 2 * x + 1))
        generalize hQ : an_child A (p.2.2 (i + 2 * x)) (p.2.2 (i + 2 * x + 1)) = Q at hI2 hsh ⊢
        by_cases hc : Q.1 < 0
        · have ih' := ih (x + 1) c Q.2 g2 r2 (by omega) hI2 (by rw [hsh]; exact hp) (hr2.trans hr) (fun a j h => (hF2 a j h).trans (hF a j h))
          show mm_W _ _ _ _ (RM dy g r (clp_ p (nI i) m (x + 1) (if Q.1 < 0 then c else c + 1) Q.2).2 (.int (clp_ p (nI i) m (x + 1) (if Q.1 < 0 then c else c + 1) Q.2).1)) _ _ _
          rw [if_pos hc]
          refine mm_I ok_Mo_children 83 0 141 [some (.ref 52), some (.int (nI k)), some (.int t), some (.int (nI i)), some (.int (nI M)), some (.int (nI c)), some (.int (nI x)), some (.int (nI (40 * k + (i + 2 * x))))] [.int Q.1, .int (nI c)] (hp_SH ++ dy, g2, r2) [] rfl trivial rfl rfl (fun _ => ?_) (fun q => False.elim (q hc))
          refine mm_B ok_Mo_children 86 5 (75, [some (.ref 52), some (.int (nI k)), some (.int t), some (.int (nI i)), some (.int (nI M)), some (.int ((nI c) + 0)), some (.int ((nI x) + 1)), some (.int (nI (40 * k + (i + 2 * x))))], [], (hp_SH ++ dy, g2, r2)) [] rfl trivial ?_
          refine mm_fg [7] ?_
          rw [nI_1, show nI c + 0 = nI c from nI_add c 0]
          exact ih'
        · have ih' := ih (x + 1) (c + 1) Q.2 g2 r2 (by omega) hI2 (by rw [hsh]; exact hp) (hr2.trans hr) (fun a j h => (hF2 a j h).trans (hF a j h))
          show mm_W _ _ _ _ (RM dy g r (clp_ p (nI i) m (x + 1) (if Q.1 < 0 then c else c + 1) Q.2).2 (.int (clp_ p (nI i) m (x + 1) (if Q.1 < 0 then c else c + 1) Q.2).1)) _ _ _
          rw [if_neg hc]
          refine mm_I ok_Mo_children 83 0 141 [some (.ref 52), some (.int (nI k)), some (.int t), some (.int (nI i)), some (.int (nI M)), some (.int (nI c)), some (.int (nI x)), some (.int (nI (40 * k + (i + 2 * x))))] [.int Q.1, .int (nI c)] (hp_SH ++ dy, g2, r2) [] rfl trivial rfl rfl (fun q => False.elim (hc q)) (fun _ => ?_)
          refine mm_B ok_Mo_children 84 2 (149, [some (.ref 52), some (.int (nI k)), some (.int t), some (.int (nI i)), some (.int (nI M)), some (.int (nI c)), some (.int (nI x)), some (.int (nI (40 * k + (i + 2 * x))))], [.int 1, .int (nI c)], (hp_SH ++ dy, g2, r2)) [] rfl trivial ?_
          refine mm_B ok_Mo_children 87 4 (75, [some (.ref 52), some (.int (nI k)), some (.int t), some (.int (nI i)), some (.int (nI M)), some (.int ((nI c) + 1)), some (.int ((nI x) + 1)), some (.int (nI (40 * k + (i + 2 * x))))], [], (hp_SH ++ dy, g2, r2)) [] rfl trivial ?_
          refine mm_fg [7] ?_
          rw [nI_1 c, nI_1 x]
          exact ih'
      · refine mm_I ok_Mo_children 57 0 100 [some (.ref 52), some (.int (nI k)), some (.int t), some (.int (nI i)), some (.int (nI M)), some (.int (nI c)), some (.int (nI x)), none] [.int (nI p.2.1 - nI (2 * x + 2)), .int (nI i)] (hp_SH ++ dy, g1, r1) [] rfl trivial rfl rfl (fun q => False.elim (absurd q (Int32.not_le.mpr ((sb_lt a4 (by omega) hi).mpr (by omega))))) (fun _ => ?_)
        exact hbad (fun h => hst ((st_e hi (by omega)).mp h))
theorem cm_children (dy : List mm_Sh) (g : Nat → Nat → Int32) (r : (Nat → Nat → Int64) × Nat × (Nat → Int32)) {A : sA} (hI : MI (nr_ g) A) (hSI : SI A) (s t f n : Int32) : mm_Ct 14 M_Mo_children [.ref 52, .int s, .int t, .int f, .int n] (hp_SH ++ dy, g, r) 0 0 (RM dy g r (an_children A s t f n).2 (.int (an_children A s t f n).1)) := by
  have hI' := hI
  obtain ⟨hL, hK, hPl, hX, hB, hS, hIm⟩ := hI'
  have hR := dX_R hX
  have h4 := hL.2.1
  have h16 := p2_16 h4
  have h6 := hK.2.1
  have e10 : g 52 10 = nI A.1.1 := by rw [← nr_eq g (k := 52) (j := 10) rfl]; exact hL.1
  have e14 : g 52 14 = nI A.2.1.1 := by rw [← nr_eq g (k := 52) (j := 14) rfl]; exact hK.1
  have hpl : ∀ b, b < 6 → g 62 b = pl_c (A.2.2.1.1 b) := fun b hb => by rw [← nr_eq g (k := 62) (j := b) rfl]; exact (hPl b hb).1
  have hot : ∀ b, b < 6 → g 62 (6 + b) = pl_c (A.2.2.1.2 b) := fun b hb => by rw [← nr_eq g (k := 62) (j := 6 + b) rfl]; exact (hPl b hb).2
  have hpo : ∀ b l, b < 6 → A.2.2.1.1 b = some l → l < A.1.1 := fun b l hb h => hSI.1 b l hb (Or.inl h)
  refine mm_start pl_Mo (Nat.le_of_ble_eq_true rfl) ?_
  cases hx1 : ix_ 4 s with
  | none =>
    rw [show an_children A s t f n = (-2, A) by unfold an_children; rw [hx1]]
    refine mm_B ok_Mo_children 0 1 (1, [some (.ref 52), some (.int s), some (.int t), some (.int f), some (.int n), none, none, none], [.int s], (hp_SH ++ dy, g, r)) [] rfl trivial ?_
    refine mm_cS (as := [.int s]) (st := []) cw_Mo_isSheet lk_Mo_323 sx_Mo_isSheet (mm_at ok_Mo_children (i := 1) rfl).1 (ct_Mo_isSheet (hp_SH ++ dy, g, r) s) (by decide) ⟨by omega, by omega⟩ (Nat.le_of_ble_eq_true rfl) (mm_vs_b (b := 77) rfl (hp_len dy)) (fun v h' hqq => ?_)
    obtain ⟨rfl, hqe⟩ := hqq; rw [hqe]
    rw [ms_x s, hx1]
    refine mm_I ok_Mo_children 2 0 4 [some (.ref 52), some (.int s), some (.int t), some (.int f), some (.int n), none, none, none] [.int (iz_ none)] (hp_SH ++ dy, g, r) [] rfl trivial rfl rfl (fun _ => ?_) (fun q => False.elim (q rfl))
    refine mm_B ok_Mo_children 15 1 (34, [some (.ref 52), some (.int s), some (.int t), some (.int f), some (.int n), none, none, none], [.int (-2)], (hp_SH ++ dy, g, r)) [] rfl trivial ?_
    exact mm_ri rfl (mm_at ok_Mo_children (i := 16) rfl).1 ⟨Nat.le_refl _, Nat.le_refl _⟩ (RM_q rfl hI fr_.rf)
  | some k =>
    obtain ⟨hl1, rfl⟩ := ix_some (by omega) hx1
    cases hx2 : ix_ 3 t with
    | none =>
      rw [show an_children A (nI k) t f n = (-2, A) by unfold an_children; rw [hx1, hx2]]
      refine mm_B ok_Mo_children 0 1 (1, [some (.ref 52), some (.int (nI k)), some (.int t), some (.int f), some (.int n), none, none, none], [.int (nI k)], (hp_SH ++ dy, g, r)) [] rfl trivial ?_
      refine mm_cS (as := [.int (nI k)]) (st := []) cw_Mo_isSheet lk_Mo_323 sx_Mo_isSheet (mm_at ok_Mo_children (i := 1) rfl).1 (ct_Mo_isSheet (hp_SH ++ dy, g, r) (nI k)) (by decide) ⟨by omega, by omega⟩ (Nat.le_of_ble_eq_true rfl) (mm_vs_b (b := 77) rfl (hp_len dy)) (fun v h' hqq => ?_)
      obtain ⟨rfl, hqe⟩ := hqq; rw [hqe]
      rw [ms_x (nI k), ix_at hl1 (by omega)]
      refine mm_I ok_Mo_children 2 0 4 [some (.ref 52), some (.int (nI k)), some (.int t), some (.int f), some (.int n), none, none, none] [.int (iz_ (some k))] (hp_SH ++ dy, g, r) [] rfl trivial rfl rfl (fun q => False.elim (one0 q)) (fun _ => ?_)
      refine mm_B ok_Mo_children 3 4 (13, [some (.ref 52), some (.int (nI k)), some (.int t), some (.int f), some (.int n), none, none, none], [.long 2, .long 0, .long (t).toInt64], (hp_SH ++ dy, g, r)) [] rfl trivial ?_
      refine mm_cS (as := [.long (t).toInt64, .long 0, .long 2]) (st := []) cw_Mo_in lk_Mo_100 sx_Mo_in (mm_at ok_Mo_children (i := 7) rfl).1 (ct_Mo_in (hp_SH ++ dy, g, r) t.toInt64 0 2) (by decide) ⟨by omega, by omega⟩ (Nat.le_of_ble_eq_true rfl) (mm_vs_b (b := 77) rfl (hp_len dy)) (fun v h' hqq => ?_)
      obtain ⟨rfl, hqe⟩ := hqq; rw [hqe]
      rw [in_3 t, hx2]
      refine mm_I ok_Mo_children 8 0 16 [some (.ref 52), some (.int (nI k)), some (.int t), some (.int f), some (.int n), none, none, none] [.int (iz_ none)] (hp_SH ++ dy, g, r) [] rfl trivial rfl rfl (fun _ => ?_) (fun q => False.elim (q rfl))
      refine mm_B ok_Mo_children 15 1 (34, [some (.ref 52), some (.int (nI k)), some (.int t), some (.int f), some (.int n), none, none, none], [.int (-2)], (hp_SH ++ dy, g, r)) [] rfl trivial ?_
      exact mm_ri rfl (mm_at ok_Mo_children (i := 16) rfl).1 ⟨Nat.le_refl _, Nat.le_refl _⟩ (RM_q rfl hI fr_.rf)
    | some j =>
      obtain ⟨hl2, rfl⟩ := ix_some (by omega) hx2
      cases hx3 : ix_ 7 n with
      | none =>
        rw [show an_children A (nI k) (nI j) f n = (-2, A) by unfold an_children; rw [hx1, hx2, hx3]]
        refine mm_B ok_Mo_children 0 1 (1, [some (.ref 52), some (.int (nI k)), some (.int (nI j)), some (.int f), some (.int n), none, none, none], [.int (nI k)], (hp_SH ++ dy, g, r)) [] rfl trivial ?_
        refine mm_cS (as := [.int (nI k)]) (st := []) cw_Mo_isSheet lk_Mo_323 sx_Mo_isSheet (mm_at ok_Mo_children (i := 1) rfl).1 (ct_Mo_isSheet (hp_SH ++ dy, g, r) (nI k)) (by decide) ⟨by omega, by omega⟩ (Nat.le_of_ble_eq_true rfl) (mm_vs_b (b := 77) rfl (hp_len dy)) (fun v h' hqq => ?_)
        obtain ⟨rfl, hqe⟩ := hqq; rw [hqe]
        rw [ms_x (nI k), ix_at hl1 (by omega)]
        refine mm_I ok_Mo_children 2 0 4 [some (.ref 52), some (.int (nI k)), some (.int (nI j)), some (.int f), some (.int n), none, none, none] [.int (iz_ (some k))] (hp_SH ++ dy, g, r) [] rfl trivial rfl rfl (fun q => False.elim (one0 q)) (fun _ => ?_)
        refine mm_B ok_Mo_children 3 4 (13, [some (.ref 52), some (.int (nI k)), some (.int (nI j)), some (.int f), some (.int n), none, none, none], [.long 2, .long 0, .long ((nI j)).toInt64], (hp_SH ++ dy, g, r)) [] rfl trivial ?_
        refine mm_cS (as := [.long ((nI j)).toInt64, .long 0, .long 2]) (st := []) cw_Mo_in lk_Mo_100 sx_Mo_in (mm_at ok_Mo_children (i := 7) rfl).1 (ct_Mo_in (hp_SH ++ dy, g, r) (nI j).toInt64 0 2) (by decide) ⟨by omega, by omega⟩ (Nat.le_of_ble_eq_true rfl) (mm_vs_b (b := 77) rfl (hp_len dy)) (fun v h' hqq => ?_)
        obtain ⟨rfl, hqe⟩ := hqq; rw [hqe]
        rw [in_3 (nI j), ix_at hl2 (by omega)]
        refine mm_I ok_Mo_children 8 0 16 [some (.ref 52), some (.int (nI k)), some (.int (nI j)), some (.int f), some (.int n), none, none, none] [.int (iz_ (some j))] (hp_SH ++ dy, g, r) [] rfl trivial rfl rfl (fun q => False.elim (one0 q)) (fun _ => ?_)
        refine mm_B ok_Mo_children 9 4 (26, [some (.ref 52), some (.int (nI k)), some (.int (nI j)), some (.int f), some (.int n), none, none, none], [.long 6, .long 0, .long (n).toInt64], (hp_SH ++ dy, g, r)) [] rfl trivial ?_
        refine mm_cS (as := [.long (n).toInt64, .long 0, .long 6]) (st := []) cw_Mo_in lk_Mo_100 sx_Mo_in (mm_at ok_Mo_children (i := 13) rfl).1 (ct_Mo_in (hp_SH ++ dy, g, r) n.toInt64 0 6) (by decide) ⟨by omega, by omega⟩ (Nat.le_of_ble_eq_true rfl) (mm_vs_b (b := 77) rfl (hp_len dy)) (fun v h' hqq => ?_)
        obtain ⟨rfl, hqe⟩ := hqq; rw [hqe]
        rw [in_7 n, hx3]
        refine mm_I ok_Mo_children 14 0 29 [some (.ref 52), some (.int (nI k)), some (.int (nI j)), some (.int f), some (.int n), none, none, none] [.int (iz_ none)] (hp_SH ++ dy, g, r) [] rfl trivial rfl rfl (fun q => False.elim (q rfl)) (fun _ => ?_)
        refine mm_B ok_Mo_children 15 1 (34, [some (.ref 52), some (.int (nI k)), some (.int (nI j)), some (.int f), some (.int n), none, none, none], [.int (-2)], (hp_SH ++ dy, g, r)) [] rfl trivial ?_
        exact mm_ri rfl (mm_at ok_Mo_children (i := 16) rfl).1 ⟨Nat.le_refl _, Nat.le_refl _⟩ (RM_q rfl hI fr_.rf)
      | some m =>
        obtain ⟨hl3, rfl⟩ := ix_some (by omega) hx3
        have hlk := nI_clamp (show k < 2 ^ 31 by omega)
        have hsk := ds1_at (ds1_g (dS_1 hS hl1))
        have hun : an_children A (nI k) (nI j) f (nI m) = (match A.2.2.2.2.2.1 k with | none => (-11, A) | some p => if p.1 = j then clp_ p f m 0 0 A else (-13, A)) := by unfold an_children; rw [hx1, hx2, hx3]
        refine mm_B ok_Mo_children 0 1 (1, [some (.ref 52), some (.int (nI k)), some (.int (nI j)), some (.int f), some (.int (nI m)), none, none, none], [.int (nI k)], (hp_SH ++ dy, g, r)) [] rfl trivial ?_
        refine mm_cS (as := [.int (nI k)]) (st := []) cw_Mo_isSheet lk_Mo_323 sx_Mo_isSheet (mm_at ok_Mo_children (i := 1) rfl).1 (ct_Mo_isSheet (hp_SH ++ dy, g, r) (nI k)) (by decide) ⟨by omega, by omega⟩ (Nat.le_of_ble_eq_true rfl) (mm_vs_b (b := 77) rfl (hp_len dy)) (fun v h' hqq => ?_)
        obtain ⟨rfl, hqe⟩ := hqq; rw [hqe]
        rw [ms_x (nI k), ix_at hl1 (by omega)]
        refine mm_I ok_Mo_children 2 0 4 [some (.ref 52), some (.int (nI k)), some (.int (nI j)), some (.int f), some (.int (nI m)), none, none, none] [.int (iz_ (some k))] (hp_SH ++ dy, g, r) [] rfl trivial rfl rfl (fun q => False.elim (one0 q)) (fun _ => ?_)
        refine mm_B ok_Mo_children 3 4 (13, [some (.ref 52), some (.int (nI k)), some (.int (nI j)), some (.int f), some (.int (nI m)), none, none, none], [.long 2, .long 0, .long ((nI j)).toInt64], (hp_SH ++ dy, g, r)) [] rfl trivial ?_
        refine mm_cS (as := [.long ((nI j)).toInt64, .long 0, .long 2]) (st := []) cw_Mo_in lk_Mo_100 sx_Mo_in (mm_at ok_Mo_children (i := 7) rfl).1 (ct_Mo_in (hp_SH ++ dy, g, r) (nI j).toInt64 0 2) (by decide) ⟨by omega, by omega⟩ (Nat.le_of_ble_eq_true rfl) (mm_vs_b (b := 77) rfl (hp_len dy)) (fun v h' hqq => ?_)
        obtain ⟨rfl, hqe⟩ := hqq; rw [hqe]
        rw [in_3 (nI j), ix_at hl2 (by omega)]
        refine mm_I ok_Mo_children 8 0 16 [some (.ref 52), some (.int (nI k)), some (.int (nI j)), some (.int f), some (.int (nI m)), none, none, none] [.int (iz_ (some j))] (hp_SH ++ dy, g, r) [] rfl trivial rfl rfl (fun q => False.elim (one0 q)) (fun _ => ?_)
        refine mm_B ok_Mo_children 9 4 (26, [some (.ref 52), some (.int (nI k)), some (.int (nI j)), some (.int f), some (.int (nI m)), none, none, none], [.long 6, .long 0, .long ((nI m)).toInt64], (hp_SH ++ dy, g, r)) [] rfl trivial ?_
        refine mm_cS (as := [.long ((nI m)).toInt64, .long 0, .long 6]) (st := []) cw_Mo_in lk_Mo_100 sx_Mo_in (mm_at ok_Mo_children (i := 13) rfl).1 (ct_Mo_in (hp_SH ++ dy, g, r) (nI m).toInt64 0 6) (by decide) ⟨by omega, by omega⟩ (Nat.le_of_ble_eq_true rfl) (mm_vs_b (b := 77) rfl (hp_len dy)) (fun v h' hqq => ?_)
        obtain ⟨rfl, hqe⟩ := hqq; rw [hqe]
        rw [in_7 (nI m), ix_at hl3 (by omega)]
        refine mm_I ok_Mo_children 14 0 29 [some (.ref 52), some (.int (nI k)), some (.int (nI j)), some (.int f), some (.int (nI m)), none, none, none] [.int (iz_ (some m))] (hp_SH ++ dy, g, r) [] rfl trivial rfl rfl (fun _ => ?_) (fun q => False.elim (one0 q))
        refine mm_B ok_Mo_children 17 4 (41, [some (.ref 52), some (.int (nI k)), some (.int (nI j)), some (.int f), some (.int (nI m)), none, none, none], [.int (g 73 ((nI k).toNatClampNeg))], (hp_SH ++ dy, g, r)) [vp_in (nI k) 4] rfl (show vp_in (nI k) 4 from (nI_vi hl1 (by decide))) ?_
        rw [hlk]
        rcases hsk with ⟨hk, a0⟩ | ⟨p, hp, a0, a1, a2, a3, a4, a5⟩
        · rw [hun, hk]
          refine mm_I ok_Mo_children 21 0 41 [some (.ref 52), some (.int (nI k)), some (.int (nI j)), some (.int f), some (.int (nI m)), none, none, none] [.int (g 73 (k))] (hp_SH ++ dy, g, r) [] rfl trivial rfl rfl (fun _ => ?_) (fun q => False.elim (q a0))
          refine mm_B ok_Mo_children 30 4 (63, [some (.ref 52), some (.int (nI k)), some (.int (nI j)), some (.int f), some (.int (nI m)), none, none, none], [.int (g 73 ((nI k).toNatClampNeg))], (hp_SH ++ dy, g, r)) [vp_in (nI k) 4] rfl (show vp_in (nI k) 4 from (nI_vi hl1 (by decide))) ?_
          rw [hlk]
          refine mm_I ok_Mo_children 34 0 63 [some (.ref 52), some (.int (nI k)), some (.int (nI j)), some (.int f), some (.int (nI m)), none, none, none] [.int (g 73 (k))] (hp_SH ++ dy, g, r) [] rfl trivial rfl rfl (fun q => False.elim (q a0)) (fun _ => ?_)
          refine mm_B ok_Mo_children 35 1 (68, [some (.ref 52), some (.int (nI k)), some (.int (nI j)), some (.int f), some (.int (nI m)), none, none, none], [.int (-11)], (hp_SH ++ dy, g, r)) [] rfl trivial ?_
          exact mm_ri rfl (mm_at ok_Mo_children (i := 36) rfl).1 ⟨Nat.le_refl _, Nat.le_refl _⟩ (RM_q rfl hI fr_.rf)
        · rw [hp] at hun
          rw [hun]
          show mm_W _ _ _ _ (RM dy g r (if p.1 = j then clp_ p f m 0 0 A else (-13, A)).2 (.int (if p.1 = j then clp_ p f m 0 0 A else (-13, A)).1)) _ _ _
          refine mm_I ok_Mo_children 21 0 41 [some (.ref 52), some (.int (nI k)), some (.int (nI j)), some (.int f), some (.int (nI m)), none, none, none] [.int (g 73 (k))] (hp_SH ++ dy, g, r) [] rfl trivial rfl rfl (fun q => False.elim (absurd (a0.symm.trans q) (by decide))) (fun _ => ?_)
          refine mm_B ok_Mo_children 22 5 (51, [some (.ref 52), some (.int (nI k)), some (.int (nI j)), some (.int f), some (.int (nI m)), none, none, none], [.int (nI j), .int (g 74 ((nI k).toNatClampNeg))], (hp_SH ++ dy, g, r)) [vp_in (nI k) 4] rfl (show vp_in (nI k) 4 from (nI_vi hl1 (by decide))) ?_
          rw [hlk, a1]
          by_cases hs : p.1 = j
          · rw [if_pos hs]
            refine mm_I ok_Mo_children 27 0 51 [some (.ref 52), some (.int (nI k)), some (.int (nI j)), some (.int f), some (.int (nI m)), none, none, none] [.int (nI j), .int (nI p.1)] (hp_SH ++ dy, g, r) [] rfl trivial rfl rfl (fun _ => ?_) (fun q => False.elim (q (congrArg nI hs)))
            refine mm_B ok_Mo_children 30 4 (63, [some (.ref 52), some (.int (nI k)), some (.int (nI j)), some (.int f), some (.int (nI m)), none, none, none], [.int (g 73 ((nI k).toNatClampNeg))], (hp_SH ++ dy, g, r)) [vp_in (nI k) 4] rfl (show vp_in (nI k) 4 from (nI_vi hl1 (by decide))) ?_
            rw [hlk]
            refine mm_I ok_Mo_children 34 0 63 [some (.ref 52), some (.int (nI k)), some (.int (nI j)), some (.int f), some (.int (nI m)), none, none, none] [.int (g 73 (k))] (hp_SH ++ dy, g, r) [] rfl trivial rfl rfl (fun _ => ?_) (fun q => False.elim (absurd (a0.symm.trans q) (by decide)))
            refine mm_B ok_Mo_children 37 4 (75, [some (.ref 52), some (.int (nI k)), some (.int (nI j)), some (.int f), some (.int (nI m)), some (.int 0), some (.int 0), none], [], (hp_SH ++ dy, g, r)) [] rfl trivial ?_
            exact cmh_go dy g r hl1 hl3 (nI j) f m 0 0 A g r (Nat.zero_add _) hI hp rfl (fun _ _ _ => rfl)
          · rw [if_neg hs]
            refine mm_I ok_Mo_children 27 0 51 [some (.ref 52), some (.int (nI k)), some (.int (nI j)), some (.int f), some (.int (nI m)), none, none, none] [.int (nI j), .int (nI p.1)] (hp_SH ++ dy, g, r) [] rfl trivial rfl rfl (fun q => False.elim (hs ((nI_eq (by omega) (by omega)).mp q))) (fun _ => ?_)
            refine mm_B ok_Mo_children 28 1 (56, [some (.ref 52), some (.int (nI k)), some (.int (nI j)), some (.int f), some (.int (nI m)), none, none, none], [.int (-13)], (hp_SH ++ dy, g, r)) [] rfl trivial ?_
            exact mm_ri rfl (mm_at ok_Mo_children (i := 29) rfl).1 ⟨Nat.le_refl _, Nat.le_refl _⟩ (RM_q rfl hI fr_.rf)

