/-! ===== Spring: a whole spring of a child ===== -/
/-- a place of a plan: a lesson, or none -/
def pl_c : Option Nat → Int32
  | none => -1
  | some l => nI l
noncomputable def sp_stp (T : sp_T) (H : Nat → Nat → Nat → Nat → Bool) (b : Nat) (ol : Option Nat) (c : sp_C) : sp_C := match ol with
  | none => c
  | some l => if H b l (sp_pc (sp_has T c.2 b)) (c.1 l) = true then sp_lis T c b l else c
/-- what is carried ahead of bend n -/
noncomputable def sp_run (T : sp_T) (H : Nat → Nat → Nat → Nat → Bool) (pl : Nat → Option Nat) (on off : Nat) : Nat → sp_C
  | 0 => (fun _ => 0, fun _ => 0)
  | n + 1 => if on ≤ n ∧ n ≤ off then sp_stp T H n (pl n) (sp_run T H pl on off n) else sp_run T H pl on off n
theorem sp_lis_le {T : sp_T} {c : sp_C} {b l : Nat} (h : ∀ i, i < 4 → c.1 i ≤ b ∧ c.2 i ≤ b) : ∀ i, i < 4 → (sp_lis T c b l).1 i ≤ b + 1 ∧ (sp_lis T c b l).2 i ≤ b + 1 := by
  intro i hi
  have h1 := h i hi
  refine ⟨?_, ?_⟩
  · show sp_up c.1 l (c.1 l + 1) i ≤ b + 1
    by_cases e : i = l
    · subst e; rw [sp_up_at]; omega
    · rw [sp_up_ne _ _ e]; omega
  · show (@ite _ (sp_ub T c b l) (Classical.propDecidable _) (sp_up c.2 l (b + 1)) c.2) i ≤ b + 1
    split
    · by_cases e : i = l
      · subst e; rw [sp_up_at]; omega
      · rw [sp_up_ne _ _ e]; omega
    · omega
theorem sp_run_le (T : sp_T) (H : Nat → Nat → Nat → Nat → Bool) (pl : Nat → Option Nat) (on off : Nat) : ∀ n i, i < 4 → (sp_run T H pl on off n).1 i ≤ n ∧ (sp_run T H pl on off n).2 i ≤ n := by
  intro n
  induction n with
  | zero => intro i _; exact ⟨Nat.le_refl _, Nat.le_refl _⟩
  | succ n ih =>
    intro i hi
    have h0 := ih i hi
    simp only [sp_run]
    split
    · unfold sp_stp
      split
      · omega
      · split
        · exact sp_lis_le ih i hi
        · omega
    · omega
theorem sp_run_ok (T : sp_T) (H : Nat → Nat → Nat → Nat → Bool) (pl : Nat → Option Nat) (on off : Nat) {n : Nat} (hn : n ≤ 6) : sp_ok (sp_run T H pl on off n) := by
  intro i hi
  have h := sp_run_le T H pl on off n i hi
  omega
theorem sp_run_on {T : sp_T} {H : Nat → Nat → Nat → Nat → Bool} {pl : Nat → Option Nat} {on off : Nat} : ∀ n, n ≤ on → sp_run T H pl on off n = (fun _ => 0, fun _ => 0) := by
  intro n
  induction n with
  | zero => intro _; rfl
  | succ n ih => intro h; simp only [sp_run]; rw [if_neg (by omega), ih (by omega)]
theorem sp_run_off {T : sp_T} {H : Nat → Nat → Nat → Nat → Bool} {pl : Nat → Option Nat} {on off k : Nat} (hk : off < k) : ∀ n, k ≤ n → sp_run T H pl on off n = sp_run T H pl on off k := by
  intro n
  induction n with
  | zero => intro h; rw [show k = 0 by omega]
  | succ n ih =>
    intro h
    by_cases e : k = n + 1
    · rw [e]
    · simp only [sp_run]
      rw [if_neg (by omega), ih (by omega)]
theorem nI_m1 : ∀ l, l < 4 → ¬ nI l = -1 := by decide
theorem sp_enc0 : nI (sp_enc (fun _ => 0, fun _ => 0)) = 0 := rfl
theorem sp_pc_lt : ∀ n, n < 16 → sp_pc n < 5 := by decide
/-- the program's children -/
abbrev sp_K : Type := Nat × (Nat → Nat) × (Nat → Nat) × (Nat → Nat)
def rl_C (K : sp_K) (P : Nat → Nat → Int32) : Prop := P 2 1 = nI K.1 ∧ K.1 ≤ 6 ∧ ∀ c, c < K.1 → P 6 c = nI (K.2.1 c) ∧ P 7 c = nI (K.2.2.1 c) ∧ K.2.1 c ≤ K.2.2.1 c ∧ K.2.2.1 c ≤ 5 ∧ P 8 c = nI (K.2.2.2 c)
theorem mo_go (dy : List mm_Sh) (g P : Nat → Nat → Int32) (r : (Nat → Nat → Int64) × Nat × (Nat → Int32)) (hP : nr_ g = P) {C : Nat → List Int32} (hR : rt_R dy P C) {T : sp_T} (hL : rl_L T P) {ag : Nat → Nat} {c on off : Nat} (hc : c < 6) (hag : P 8 c = nI (ag c)) (hoff : off ≤ 5) {pa : Nat} {pl : Nat → Option Nat} (hpa : (hp_SH ++ dy)[pa]? = some (.inl (0, 6))) (hpf : ∀ j, f1_ pa j = false) (hpl : ∀ b, b < 6 → g pa b = pl_c (pl b)) (hpo : ∀ b l, b < 6 → pl b = some l → l < T.1) : ∀ (m k : Nat) (g1 : Nat → Nat → Int32), off + 1 - k ≤ m → on ≤ k → k ≤ 6 → fr_ f1_ g g1 → mm_W 7 M_Sp_memoryOf 0 0 (fun v h' => v = some (.int (nI (sp_enc (sp_run T (sp_H C ag c) pl on off 6)))) ∧ ∃ g', h' = (hp_SH ++ dy, g', r) ∧ fr_ f1_ g g') 0 0 (6, [some (.ref 1), some (.int (nI c)), some (.int (nI on)), some (.int (nI off)), some (.ref pa), some (.int (nI (sp_enc (sp_run T (sp_H C ag c) pl on off k)))), some (.int (nI k)), none, none], [], (hp_SH ++ dy, g1, r)) := by
  have h4 := hL.2.1
  have hplt : pa < (hp_SH ++ dy).length := (List.getElem?_eq_some_iff.mp hpa).1
  intro m
  induction m with
  | zero =>
    intro k g1 hm hon hk6 hF
    refine mm_I ok_Sp_memoryOf 4 2 9 [some (.ref 1), some (.int (nI c)), some (.int (nI on)), some (.int (nI off)), some (.ref pa), some (.int (nI (sp_enc (sp_run T (sp_H C ag c) pl on off k)))), some (.int (nI k)), none, none] [.int (nI off), .int (nI k)] (hp_SH ++ dy, g1, r) [] rfl trivial rfl rfl (fun _ => ?_) (fun q => False.elim (q (nI_lt (by omega) (by omega))))
    refine mm_B ok_Sp_memoryOf 39 1 (82, [some (.ref 1), some (.int (nI c)), some (.int (nI on)), some (.int (nI off)), some (.ref pa), some (.int (nI (sp_enc (sp_run T (sp_H C ag c) pl on off k)))), some (.int (nI k)), none, none], [.int (nI (sp_enc (sp_run T (sp_H C ag c) pl on off k)))], (hp_SH ++ dy, g1, r)) [] rfl trivial ?_
    have e9 : sp_run T (sp_H C ag c) pl on off 6 = sp_run T (sp_H C ag c) pl on off k := sp_run_off (by omega) 6 hk6
    exact mm_ri rfl (mm_at ok_Sp_memoryOf (i := 40) rfl).1 ⟨Nat.le_refl _, Nat.le_refl _⟩ (⟨by rw [e9], g1, rfl, hF⟩)
  | succ m ih =>
    intro k g1 hm hon hk6 hF
    by_cases hko : off < k
    · exact ih k g1 (by omega) hon hk6 hF
    · obtain ⟨cs, hcs⟩ : ∃ cs, cs = sp_run T (sp_H C ag c) pl on off k := ⟨_, rfl⟩
      have hle : ∀ i, i < 4 → cs.1 i ≤ k ∧ cs.2 i ≤ k := by rw [hcs]; exact sp_run_le _ _ _ _ _ k
      have hok : sp_ok cs := by rw [hcs]; exact sp_run_ok _ _ _ _ _ hk6
      have hh := sp_has_lt T cs.2 k h4
      have hP1 := hF.nr f1_nr hP
      have hk5 : k < 6 := by omega
      have epl : g1 pa (nI k).toNatClampNeg = pl_c (pl k) := by rw [nI_clamp (by omega), hF pa k (hpf k)]; exact hpl k hk5
      have hnext : sp_run T (sp_H C ag c) pl on off (k + 1) = sp_stp T (sp_H C ag c) k (pl k) cs := by simp only [sp_run]; rw [if_pos (by omega), hcs]
      rw [← hcs]
      refine mm_I ok_Sp_memoryOf 4 2 9 [some (.ref 1), some (.int (nI c)), some (.int (nI on)), some (.int (nI off)), some (.ref pa), some (.int (nI (sp_enc cs))), some (.int (nI k)), none, none] [.int (nI off), .int (nI k)] (hp_SH ++ dy, g1, r) [] rfl trivial rfl rfl (fun q => False.elim (nI_nlt (show k ≤ off by omega) (by omega) q)) (fun _ => ?_)
      refine mm_B ok_Sp_memoryOf 7 2 (16, [some (.ref 1), some (.int (nI c)), some (.int (nI on)), some (.int (nI off)), some (.ref pa), some (.int (nI (sp_enc cs))), some (.int (nI k)), none, none], [.int (nI k), .ref pa], (hp_SH ++ dy, g1, r)) [] rfl trivial ?_
      refine mm_iald hpa (nI_vi hk5 (by decide)) (mm_at ok_Sp_memoryOf (i := 9) rfl).1 ?_
      refine mm_B ok_Sp_memoryOf 10 3 (22, [some (.ref 1), some (.int (nI c)), some (.int (nI on)), some (.int (nI off)), some (.ref pa), some (.int (nI (sp_enc cs))), some (.int (nI k)), some (.int (g1 pa (nI k).toNatClampNeg)), none], [.int (-1), .int (g1 pa (nI k).toNatClampNeg)], (hp_SH ++ dy, g1, r)) [] rfl trivial ?_
      rw [epl]
      cases hp : pl k with
      | none =>
        refine mm_I ok_Sp_memoryOf 13 0 22 [some (.ref 1), some (.int (nI c)), some (.int (nI on)), some (.int (nI off)), some (.ref pa), some (.int (nI (sp_enc cs))), some (.int (nI k)), some (.int (-1)), none] [.int (-1), .int (-1)] (hp_SH ++ dy, g1, r) [] rfl trivial rfl rfl (fun q => False.elim (q rfl)) (fun _ => ?_)
        refine mm_B ok_Sp_memoryOf 14 1 (74, [some (.ref 1), some (.int (nI c)), some (.int (nI on)), some (.int (nI off)), some (.ref pa), some (.int (nI (sp_enc cs))), some (.int (nI k)), some (.int (-1)), none], [], (hp_SH ++ dy, g1, r)) [] rfl trivial ?_
        refine mm_B ok_Sp_memoryOf 37 2 (6, [some (.ref 1), some (.int (nI c)), some (.int (nI on)), some (.int (nI off)), some (.ref pa), some (.int (nI (sp_enc cs))), some (.int ((nI k) + 1)), some (.int (-1)), none], [], (hp_SH ++ dy, g1, r)) [] rfl trivial ?_
        rw [nI_1]
        refine mm_fg [7] ?_
        have hn : sp_run T (sp_H C ag c) pl on off (k + 1) = cs := by rw [hnext, hp]; rfl
        have h8 := ih (k + 1) g1 (by omega) (by omega) (by omega) hF
        rw [hn] at h8
        exact h8
      | some l =>
        have hl := hpo k l hk5 hp
        refine mm_I ok_Sp_memoryOf 13 0 22 [some (.ref 1), some (.int (nI c)), some (.int (nI on)), some (.int (nI off)), some (.ref pa), some (.int (nI (sp_enc cs))), some (.int (nI k)), some (.int (nI l)), none] [.int (-1), .int (nI l)] (hp_SH ++ dy, g1, r) [] rfl trivial rfl rfl (fun _ => ?_) (fun q => False.elim (absurd q (nI_m1 l (by omega))))
        refine mm_B ok_Sp_memoryOf 15 3 (33, [some (.ref 1), some (.int (nI c)), some (.int (nI on)), some (.int (nI off)), some (.ref pa), some (.int (nI (sp_enc cs))), some (.int (nI k)), some (.int (nI l)), none], [.int (nI k), .int (nI (sp_enc cs)), .ref 1], (hp_SH ++ dy, g1, r)) [] rfl trivial ?_
        refine mm_cV (as := [.int (nI (sp_enc cs)), .int (nI k)]) (st := []) (q := 1) cw_Sp_owned lk_Sp_117 in_Sp_owned sl_Sp_owned rfl rfl (mm_at ok_Sp_memoryOf (i := 18) rfl).1 (ct_Sp_owned dy g1 P r hP1 hL hok hk5 (fun i hi => by have := (hle i (by omega)).2; omega)) (by decide) ⟨by omega, by omega⟩ (Nat.le_of_ble_eq_true rfl) ⟨fun k hk => by simp only [List.mem_cons, Option.some.injEq, Value.ref.injEq, reduceCtorEq, List.not_mem_nil, or_false, false_or] at hk; rcases hk with rfl | rfl <;> first | exact hplt | exact Nat.lt_of_lt_of_le (by decide) (hp_len dy), (mm_vs_b (b := 77) (lv := []) rfl (hp_len dy)).2⟩ (fun v h' hqq => ?_)
        obtain ⟨rfl, hqe⟩ := hqq; rw [hqe]
        refine mm_cS (as := [.int (nI (sp_has T cs.2 k))]) (st := []) cw_In_bitCount lk_Sp_129 sx_In_bitCount (mm_at ok_Sp_memoryOf (i := 19) rfl).1 (ct_In_bitCount (hp_SH ++ dy, g1, r) (nI (sp_has T cs.2 k))) (by decide) ⟨by omega, by omega⟩ (Nat.le_of_ble_eq_true rfl) ⟨fun k hk => by simp only [List.mem_cons, Option.some.injEq, Value.ref.injEq, reduceCtorEq, List.not_mem_nil, or_false, false_or] at hk; rcases hk with rfl | rfl <;> first | exact hplt | exact Nat.lt_of_lt_of_le (by decide) (hp_len dy), (mm_vs_b (b := 77) (lv := []) rfl (hp_len dy)).2⟩ (fun v h' hqq => ?_)
        obtain ⟨rfl, hqe⟩ := hqq; rw [hqe, pc_bc _ hh]
        refine mm_B ok_Sp_memoryOf 20 8 (53, [some (.ref 1), some (.int (nI c)), some (.int (nI on)), some (.int (nI off)), some (.ref pa), some (.int (nI (sp_enc cs))), some (.int (nI k)), some (.int (nI l)), some (.int (nI (sp_pc (sp_has T cs.2 k))))], [.int (nI l), .int (nI (sp_enc cs)), .int (nI (sp_pc (sp_has T cs.2 k))), .int (nI l), .int (nI k), .int (nI c), .ref 1], (hp_SH ++ dy, g1, r)) [] rfl trivial ?_
        refine mm_cS (as := [.int (nI (sp_enc cs)), .int (nI l)]) (st := [.int (nI (sp_pc (sp_has T cs.2 k))), .int (nI l), .int (nI k), .int (nI c), .ref 1]) cw_Sp_timesHeard lk_Sp_123 sx_Sp_timesHeard (mm_at ok_Sp_memoryOf (i := 28) rfl).1 (ct_Sp_timesHeard (hp_SH ++ dy, g1, r) (nI (sp_enc cs)) (nI l)) (by decide) ⟨by omega, by omega⟩ (Nat.le_of_ble_eq_true rfl) ⟨fun k hk => by simp only [List.mem_cons, Option.some.injEq, Value.ref.injEq, reduceCtorEq, List.not_mem_nil, or_false, false_or] at hk; rcases hk with rfl | rfl <;> first | exact hplt | exact Nat.lt_of_lt_of_le (by decide) (hp_len dy), (mm_vs_b (b := 77) (lv := []) rfl (hp_len dy)).2⟩ (fun v h' hqq => ?_)
        obtain ⟨rfl, hqe⟩ := hqq; rw [hqe, me_times hok (by omega)]
        refine mm_cV (as := [.int (nI c), .int (nI k), .int (nI l), .int (nI (sp_pc (sp_has T cs.2 k))), .int (nI (cs.1 l))]) (st := []) (q := 1) cw_Sp_hears lk_Sp_134 in_Sp_hears sl_Sp_hears rfl rfl (mm_at ok_Sp_memoryOf (i := 29) rfl).1 (ct_Sp_hears dy g1 P r hP1 hR (ag := ag) (b := k) (l := l) (k := sp_pc (sp_has T cs.2 k)) (o := cs.1 l) hc hag) (by decide) ⟨by omega, by omega⟩ (Nat.le_of_ble_eq_true rfl) ⟨fun k hk => by simp only [List.mem_cons, Option.some.injEq, Value.ref.injEq, reduceCtorEq, List.not_mem_nil, or_false, false_or] at hk; rcases hk with rfl | rfl <;> first | exact hplt | exact Nat.lt_of_lt_of_le (by decide) (hp_len dy), (mm_vs_b (b := 77) (lv := []) rfl (hp_len dy)).2⟩ (fun v h' hqq => ?_)
        obtain ⟨rfl, g2, hqe, hF2⟩ := hqq; rw [hqe]
        have hP2 := hF2.nr f1_nr hP1
        by_cases hH : sp_H C ag c k l (sp_pc (sp_has T cs.2 k)) (cs.1 l) = true
        · rw [if_pos hH]
          refine mm_I ok_Sp_memoryOf 30 0 59 [some (.ref 1), some (.int (nI c)), some (.int (nI on)), some (.int (nI off)), some (.ref pa), some (.int (nI (sp_enc cs))), some (.int (nI k)), some (.int (nI l)), some (.int (nI (sp_pc (sp_has T cs.2 k))))] [.int 1] (hp_SH ++ dy, g2, r) [] rfl trivial rfl rfl (fun q => False.elim (absurd q (by decide))) (fun _ => ?_)
          refine mm_B ok_Sp_memoryOf 31 4 (69, [some (.ref 1), some (.int (nI c)), some (.int (nI on)), some (.int (nI off)), some (.ref pa), some (.int (nI (sp_enc cs))), some (.int (nI k)), some (.int (nI l)), some (.int (nI (sp_pc (sp_has T cs.2 k))))], [.int (nI l), .int (nI k), .int (nI (sp_enc cs)), .ref 1], (hp_SH ++ dy, g2, r)) [] rfl trivial ?_
          refine mm_cV (as := [.int (nI (sp_enc cs)), .int (nI k), .int (nI l)]) (st := []) (q := 1) cw_Sp_listened lk_Sp_137 in_Sp_listened sl_Sp_listened rfl rfl (mm_at ok_Sp_memoryOf (i := 35) rfl).1 (ct_Sp_listened dy g2 P r hP2 hL hk5 hle hl) (by decide) ⟨by omega, by omega⟩ (Nat.le_of_ble_eq_true rfl) ⟨fun k hk => by simp only [List.mem_cons, Option.some.injEq, Value.ref.injEq, reduceCtorEq, List.not_mem_nil, or_false, false_or] at hk; rcases hk with rfl | rfl <;> first | exact hplt | exact Nat.lt_of_lt_of_le (by decide) (hp_len dy), (mm_vs_b (b := 77) (lv := []) rfl (hp_len dy)).2⟩ (fun v h' hqq => ?_)
          obtain ⟨rfl, hqe⟩ := hqq; rw [hqe]
          refine mm_B ok_Sp_memoryOf 36 3 (6, [some (.ref 1), some (.int (nI c)), some (.int (nI on)), some (.int (nI off)), some (.ref pa), some (.int (nI (sp_enc (sp_lis T cs k l)))), some (.int ((nI k) + 1)), some (.int (nI l)), some (.int (nI (sp_pc (sp_has T cs.2 k))))], [], (hp_SH ++ dy, g2, r)) [] rfl trivial ?_
          rw [nI_1]
          refine mm_fg [7, 8] ?_
          have hn : sp_run T (sp_H C ag c) pl on off (k + 1) = sp_lis T cs k l := by rw [hnext, hp]; show (if _ then _ else _) = _; rw [if_pos hH]
          have h8 := ih (k + 1) g2 (by omega) (by omega) (by omega) (hF.tr hF2)
          rw [hn] at h8
          exact h8
        · rw [if_neg hH]
          refine mm_I ok_Sp_memoryOf 30 0 59 [some (.ref 1), some (.int (nI c)), some (.int (nI on)), some (.int (nI off)), some (.ref pa), some (.int (nI (sp_enc cs))), some (.int (nI k)), some (.int (nI l)), some (.int (nI (sp_pc (sp_has T cs.2 k))))] [.int 0] (hp_SH ++ dy, g2, r) [] rfl trivial rfl rfl (fun _ => ?_) (fun q => False.elim (q rfl))
          refine mm_B ok_Sp_memoryOf 37 2 (6, [some (.ref 1), some (.int (nI c)), some (.int (nI on)), some (.int (nI off)), some (.ref pa), some (.int (nI (sp_enc cs))), some (.int ((nI k) + 1)), some (.int (nI l)), some (.int (nI (sp_pc (sp_has T cs.2 k))))], [], (hp_SH ++ dy, g2, r)) [] rfl trivial ?_
          rw [nI_1]
          refine mm_fg [7, 8] ?_
          have hn : sp_run T (sp_H C ag c) pl on off (k + 1) = cs := by rw [hnext, hp]; show (if _ then _ else _) = _; rw [if_neg hH]
          have h8 := ih (k + 1) g2 (by omega) (by omega) (by omega) (hF.tr hF2)
          rw [hn] at h8
          exact h8
theorem ct_Sp_memoryOf (dy : List mm_Sh) (g P : Nat → Nat → Int32) (r : (Nat → Nat → Int64) × Nat × (Nat → Int32)) (hP : nr_ g = P) {C : Nat → List Int32} (hR : rt_R dy P C) {T : sp_T} (hL : rl_L T P) {ag : Nat → Nat} {c on off : Nat} (hc : c < 6) (hag : P 8 c = nI (ag c)) (hon : on ≤ 6) (hoff : off ≤ 5) {pa : Nat} {pl : Nat → Option Nat} (hpa : (hp_SH ++ dy)[pa]? = some (.inl (0, 6))) (hpf : ∀ j, f1_ pa j = false) (hpl : ∀ b, b < 6 → g pa b = pl_c (pl b)) (hpo : ∀ b l, b < 6 → pl b = some l → l < T.1) : mm_Ct 7 M_Sp_memoryOf [.ref 1, .int (nI c), .int (nI on), .int (nI off), .ref pa] (hp_SH ++ dy, g, r) 0 0 (fun v h' => v = some (.int (nI (sp_enc (sp_run T (sp_H C ag c) pl on off 6)))) ∧ ∃ g', h' = (hp_SH ++ dy, g', r) ∧ fr_ f1_ g g') := by
  refine mm_start pl_Sp (Nat.le_of_ble_eq_true rfl) ?_
  refine mm_B ok_Sp_memoryOf 0 4 (6, [some (.ref 1), some (.int (nI c)), some (.int (nI on)), some (.int (nI off)), some (.ref pa), some (.int 0), some (.int (nI on)), none, none], [], (hp_SH ++ dy, g, r)) [] rfl trivial ?_
  have h8 := mo_go dy g P r hP hR hL hc hag hoff hpa hpf hpl hpo (on := on) 6 on g (by omega) (Nat.le_refl _) hon fr_.rf
  rw [sp_run_on on (Nat.le_refl _)] at h8
  exact h8

