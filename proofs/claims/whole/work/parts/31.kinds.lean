/-! ===== the kinds ===== -/
theorem lk_Hk_11 : Cond.methodLink "SchoolOnRaft$HardKind" 11 ⟨"SchoolOnRaft$LongKind", "keeps", "(II)Z"⟩ ∈ mm_G := mm_wat 677 (by decide +kernel) rfl
theorem lk_So_7 : Cond.methodLink "SchoolOnRaft$SongKind" 7 ⟨"SchoolOnRaft$LightKind", "times", "(I)I"⟩ ∈ mm_G := mm_wat 449 (by decide +kernel) rfl
theorem si_Li_times : Cond.sameMethod "SchoolOnRaft$LightKind" "SchoolOnRaft$Kind" "times" "(I)I" ∈ mm_G := mm_wat 450 (by decide +kernel) rfl
theorem si_Lo_keeps : Cond.sameMethod "SchoolOnRaft$LongKind" "SchoolOnRaft$Kind" "keeps" "(II)Z" ∈ mm_G := mm_wat 678 (by decide +kernel) rfl
theorem mm_vs_c {n q : Nat} {lv : mm_L} {st : List Value} (hq : q < n) (h : mm_vs n lv st) : mm_vs n (some (.ref q) :: lv) st :=
  ⟨fun k hk => (List.mem_cons.mp hk).elim (fun e => by cases e; exact hq) (h.1 k), h.2⟩
def f_Kd_times (x : Int32) : Int32 := 1
theorem ct_Kd_times (h : mm_Hp) (q : Nat) (x : Int32) : mm_Ct 1 M_Kd_times [.ref q, .int x] h 0 0 (fun v h' => v = some (.int (f_Kd_times x)) ∧ h' = h) := by
  refine mm_start pl_Kd (Nat.le_of_ble_eq_true rfl) ?_
  refine mm_B ok_Kd_times 0 1 (1, [some (.ref q), some (.int x)], [.int 1], h) [] rfl trivial ?_
  exact mm_ri rfl (mm_at ok_Kd_times (i := 1) rfl).1 ⟨Nat.le_refl _, Nat.le_refl _⟩ ⟨congrArg some (congrArg Value.int (rfl)), rfl⟩
def f_Kd_keeps (x y : Int32) : Int32 := 1
theorem zo_Kd_keeps (x y : Int32) : f_Kd_keeps x y = 0 ∨ f_Kd_keeps x y = 1 := by
  unfold f_Kd_keeps
  repeat' split
  all_goals first | exact Or.inl rfl | exact Or.inr rfl
theorem ct_Kd_keeps (h : mm_Hp) (q : Nat) (x y : Int32) : mm_Ct 1 M_Kd_keeps [.ref q, .int x, .int y] h 0 0 (fun v h' => v = some (.int (f_Kd_keeps x y)) ∧ h' = h) := by
  refine mm_start pl_Kd (Nat.le_of_ble_eq_true rfl) ?_
  refine mm_B ok_Kd_keeps 0 1 (1, [some (.ref q), some (.int x), some (.int y)], [.int 1], h) [] rfl trivial ?_
  exact mm_rz rfl (mm_at ok_Kd_keeps (i := 1) rfl).1 ⟨Nat.le_refl _, Nat.le_refl _⟩ (Or.inr rfl) ⟨congrArg some (congrArg Value.int (rfl)), rfl⟩
def f_Kd_value (x : Int32) : Int32 := (10 + x)
theorem ct_Kd_value (h : mm_Hp) (q : Nat) (x : Int32) : mm_Ct 1 M_Kd_value [.ref q, .int x] h 0 0 (fun v h' => v = some (.int (f_Kd_value x)) ∧ h' = h) := by
  refine mm_start pl_Kd (Nat.le_of_ble_eq_true rfl) ?_
  refine mm_B ok_Kd_value 0 3 (4, [some (.ref q), some (.int x)], [.int (10 + x)], h) [] rfl trivial ?_
  exact mm_ri rfl (mm_at ok_Kd_value (i := 3) rfl).1 ⟨Nat.le_refl _, Nat.le_refl _⟩ ⟨congrArg some (congrArg Value.int (rfl)), rfl⟩
def f_Lo_times (x : Int32) : Int32 := ((f_Kd_times x) + (x - x / 3 * 3))
theorem ct_Lo_times (h : mm_Hp) {q ci : Nat} {fs : List Nat} {r : vw_C} (hrc : vwCl[ci]? = some r) (hq : h.1[q]? = some (.inr (ci, fs))) (x : Int32) : mm_Ct 2 M_Lo_times [.ref q, .int x] h 0 0 (fun v h' => v = some (.int (f_Lo_times x)) ∧ h' = h) := by
  have hlt : q < h.1.length := (List.getElem?_eq_some_iff.mp hq).1
  refine mm_start pl_Lo (Nat.le_of_ble_eq_true rfl) ?_
  refine mm_B ok_Lo_times 0 2 (2, [some (.ref q), some (.int x)], [.int x, .ref q], h) [] rfl trivial ?_
  refine mm_cX (as := [.int x]) (st := []) (q := q) cw_Kd_times lk_Lo_7 sm_Kd_times su_Lo_Kd in_Kd_times (by decide) hrc hq (mm_at ok_Lo_times (i := 2) rfl).1 (ct_Kd_times h q x) (by decide) ⟨by omega, by omega⟩ (Nat.le_of_ble_eq_true rfl) (mm_vs_c hlt (mm_vs_b (b := 0) rfl (Nat.zero_le _))) (fun v h' hqq => ?_)
  obtain ⟨rfl, hqe⟩ := hqq; rw [hqe]
  refine mm_B ok_Lo_times 3 4 (9, [some (.ref q), some (.int x)], [.int ((f_Kd_times x) + (x - x / 3 * 3))], h) [¬ (3 : Int32) = 0] rfl (show ¬ (3 : Int32) = 0 from (by first | exact mm_vi rfl | assumption | decide)) ?_
  exact mm_ri rfl (mm_at ok_Lo_times (i := 7) rfl).1 ⟨Nat.le_refl _, Nat.le_refl _⟩ ⟨congrArg some (congrArg Value.int (rfl)), rfl⟩
def f_Lo_value (x : Int32) : Int32 := (2 * (f_Kd_value x))
theorem ct_Lo_value (h : mm_Hp) {q ci : Nat} {fs : List Nat} {r : vw_C} (hrc : vwCl[ci]? = some r) (hq : h.1[q]? = some (.inr (ci, fs))) (x : Int32) : mm_Ct 2 M_Lo_value [.ref q, .int x] h 0 0 (fun v h' => v = some (.int (f_Lo_value x)) ∧ h' = h) := by
  have hlt : q < h.1.length := (List.getElem?_eq_some_iff.mp hq).1
  refine mm_start pl_Lo (Nat.le_of_ble_eq_true rfl) ?_
  refine mm_B ok_Lo_value 0 3 (3, [some (.ref q), some (.int x)], [.int x, .ref q, .int 2], h) [] rfl trivial ?_
  refine mm_cX (as := [.int x]) (st := [.int 2]) (q := q) cw_Kd_value lk_Lo_11 sm_Kd_value su_Lo_Kd in_Kd_value (by decide) hrc hq (mm_at ok_Lo_value (i := 3) rfl).1 (ct_Kd_value h q x) (by decide) ⟨by omega, by omega⟩ (Nat.le_of_ble_eq_true rfl) (mm_vs_c hlt (mm_vs_b (b := 0) rfl (Nat.zero_le _))) (fun v h' hqq => ?_)
  obtain ⟨rfl, hqe⟩ := hqq; rw [hqe]
  refine mm_B ok_Lo_value 4 1 (7, [some (.ref q), some (.int x)], [.int (2 * (f_Kd_value x))], h) [] rfl trivial ?_
  exact mm_ri rfl (mm_at ok_Lo_value (i := 5) rfl).1 ⟨Nat.le_refl _, Nat.le_refl _⟩ ⟨congrArg some (congrArg Value.int (rfl)), rfl⟩
def f_Li_keeps (x y : Int32) : Int32 := (if x < y then 0 else 1)
theorem zo_Li_keeps (x y : Int32) : f_Li_keeps x y = 0 ∨ f_Li_keeps x y = 1 := by
  unfold f_Li_keeps
  repeat' split
  all_goals first | exact Or.inl rfl | exact Or.inr rfl
theorem ct_Li_keeps (h : mm_Hp) (q : Nat) (x y : Int32) : mm_Ct 1 M_Li_keeps [.ref q, .int x, .int y] h 0 0 (fun v h' => v = some (.int (f_Li_keeps x y)) ∧ h' = h) := by
  refine mm_start pl_Li (Nat.le_of_ble_eq_true rfl) ?_
  refine mm_I ok_Li_keeps 0 2 2 [some (.ref q), some (.int x), some (.int y)] [.int x, .int y] h [] rfl trivial rfl rfl (fun h1 => ?_) (fun h1 => ?_)
  · refine mm_B ok_Li_keeps 5 1 (10, [some (.ref q), some (.int x), some (.int y)], [.int 0], h) [] rfl trivial ?_
    exact mm_rz rfl (mm_at ok_Li_keeps (i := 6) rfl).1 ⟨Nat.le_refl _, Nat.le_refl _⟩ (Or.inl rfl) ⟨congrArg some (congrArg Value.int (by simp only [f_Li_keeps, if_pos h1])), rfl⟩
  · refine mm_B ok_Li_keeps 3 2 (10, [some (.ref q), some (.int x), some (.int y)], [.int 1], h) [] rfl trivial ?_
    exact mm_rz rfl (mm_at ok_Li_keeps (i := 6) rfl).1 ⟨Nat.le_refl _, Nat.le_refl _⟩ (Or.inr rfl) ⟨congrArg some (congrArg Value.int (by simp only [f_Li_keeps, if_neg h1])), rfl⟩
def f_Li_value (x : Int32) : Int32 := ((f_Kd_value x) - 5)
theorem ct_Li_value (h : mm_Hp) {q ci : Nat} {fs : List Nat} {r : vw_C} (hrc : vwCl[ci]? = some r) (hq : h.1[q]? = some (.inr (ci, fs))) (x : Int32) : mm_Ct 2 M_Li_value [.ref q, .int x] h 0 0 (fun v h' => v = some (.int (f_Li_value x)) ∧ h' = h) := by
  have hlt : q < h.1.length := (List.getElem?_eq_some_iff.mp hq).1
  refine mm_start pl_Li (Nat.le_of_ble_eq_true rfl) ?_
  refine mm_B ok_Li_value 0 2 (2, [some (.ref q), some (.int x)], [.int x, .ref q], h) [] rfl trivial ?_
  refine mm_cX (as := [.int x]) (st := []) (q := q) cw_Kd_value lk_Li_7 sm_Kd_value su_Li_Kd in_Kd_value (by decide) hrc hq (mm_at ok_Li_value (i := 2) rfl).1 (ct_Kd_value h q x) (by decide) ⟨by omega, by omega⟩ (Nat.le_of_ble_eq_true rfl) (mm_vs_c hlt (mm_vs_b (b := 0) rfl (Nat.zero_le _))) (fun v h' hqq => ?_)
  obtain ⟨rfl, hqe⟩ := hqq; rw [hqe]
  refine mm_B ok_Li_value 3 2 (7, [some (.ref q), some (.int x)], [.int ((f_Kd_value x) - 5)], h) [] rfl trivial ?_
  exact mm_ri rfl (mm_at ok_Li_value (i := 5) rfl).1 ⟨Nat.le_refl _, Nat.le_refl _⟩ ⟨congrArg some (congrArg Value.int (rfl)), rfl⟩
def f_Hk_times (x : Int32) : Int32 := ((f_Lo_times x) + 1)
theorem ct_Hk_times (h : mm_Hp) {q ci : Nat} {fs : List Nat} {r : vw_C} (hrc : vwCl[ci]? = some r) (hq : h.1[q]? = some (.inr (ci, fs))) (x : Int32) : mm_Ct 3 M_Hk_times [.ref q, .int x] h 0 0 (fun v h' => v = some (.int (f_Hk_times x)) ∧ h' = h) := by
  have hlt : q < h.1.length := (List.getElem?_eq_some_iff.mp hq).1
  refine mm_start pl_Hk (Nat.le_of_ble_eq_true rfl) ?_
  refine mm_B ok_Hk_times 0 2 (2, [some (.ref q), some (.int x)], [.int x, .ref q], h) [] rfl trivial ?_
  refine mm_cX (as := [.int x]) (st := []) (q := q) cw_Lo_times lk_Hk_7 sm_Lo_times su_Hk_Lo in_Lo_times (by decide) hrc hq (mm_at ok_Hk_times (i := 2) rfl).1 (ct_Lo_times h hrc hq x) (by decide) ⟨by omega, by omega⟩ (Nat.le_of_ble_eq_true rfl) (mm_vs_c hlt (mm_vs_b (b := 0) rfl (Nat.zero_le _))) (fun v h' hqq => ?_)
  obtain ⟨rfl, hqe⟩ := hqq; rw [hqe]
  refine mm_B ok_Hk_times 3 2 (7, [some (.ref q), some (.int x)], [.int ((f_Lo_times x) + 1)], h) [] rfl trivial ?_
  exact mm_ri rfl (mm_at ok_Hk_times (i := 5) rfl).1 ⟨Nat.le_refl _, Nat.le_refl _⟩ ⟨congrArg some (congrArg Value.int (rfl)), rfl⟩
def f_Hk_keeps (x y : Int32) : Int32 := (if (f_Kd_keeps x y) = 0 then 0 else (if 4 < y then 0 else 1))
theorem zo_Hk_keeps (x y : Int32) : f_Hk_keeps x y = 0 ∨ f_Hk_keeps x y = 1 := by
  unfold f_Hk_keeps
  repeat' split
  all_goals first | exact Or.inl rfl | exact Or.inr rfl
theorem ct_Hk_keeps (h : mm_Hp) {q ci : Nat} {fs : List Nat} {r : vw_C} (hrc : vwCl[ci]? = some r) (hq : h.1[q]? = some (.inr (ci, fs))) (x y : Int32) : mm_Ct 2 M_Hk_keeps [.ref q, .int x, .int y] h 0 0 (fun v h' => v = some (.int (f_Hk_keeps x y)) ∧ h' = h) := by
  have hlt : q < h.1.length := (List.getElem?_eq_some_iff.mp hq).1
  refine mm_start pl_Hk (Nat.le_of_ble_eq_true rfl) ?_
  refine mm_B ok_Hk_keeps 0 3 (3, [some (.ref q), some (.int x), some (.int y)], [.int y, .int x, .ref q], h) [] rfl trivial ?_
  refine mm_cY (sc := "SchoolOnRaft$LongKind") (as := [.int x, .int y]) (st := []) (q := q) cw_Kd_keeps lk_Hk_11 si_Lo_keeps su_Hk_Lo su_Lo_Kd in_Kd_keeps (by decide) hrc hq (mm_at ok_Hk_keeps (i := 3) rfl).1 (ct_Kd_keeps h q x y) (by decide) ⟨by omega, by omega⟩ (Nat.le_of_ble_eq_true rfl) (mm_vs_c hlt (mm_vs_b (b := 0) rfl (Nat.zero_le _))) (fun v h' hqq => ?_)
  obtain ⟨rfl, hqe⟩ := hqq; rw [hqe]
  refine mm_I ok_Hk_keeps 4 0 6 [some (.ref q), some (.int x), some (.int y)] [.int (f_Kd_keeps x y)] h [] rfl trivial rfl rfl (fun h1 => ?_) (fun h1 => ?_)
  · refine mm_B ok_Hk_keeps 10 1 (19, [some (.ref q), some (.int x), some (.int y)], [.int 0], h) [] rfl trivial ?_
    exact mm_rz rfl (mm_at ok_Hk_keeps (i := 11) rfl).1 ⟨Nat.le_refl _, Nat.le_refl _⟩ (Or.inl rfl) ⟨congrArg some (congrArg Value.int (by simp only [f_Hk_keeps, if_pos h1])), rfl⟩
  · refine mm_I ok_Hk_keeps 5 2 11 [some (.ref q), some (.int x), some (.int y)] [.int 4, .int y] h [] rfl trivial rfl rfl (fun h2 => ?_) (fun h2 => ?_)
    · refine mm_B ok_Hk_keeps 10 1 (19, [some (.ref q), some (.int x), some (.int y)], [.int 0], h) [] rfl trivial ?_
      exact mm_rz rfl (mm_at ok_Hk_keeps (i := 11) rfl).1 ⟨Nat.le_refl _, Nat.le_refl _⟩ (Or.inl rfl) ⟨congrArg some (congrArg Value.int (by simp only [f_Hk_keeps, if_neg h1, if_pos h2])), rfl⟩
    · refine mm_B ok_Hk_keeps 8 2 (19, [some (.ref q), some (.int x), some (.int y)], [.int 1], h) [] rfl trivial ?_
      exact mm_rz rfl (mm_at ok_Hk_keeps (i := 11) rfl).1 ⟨Nat.le_refl _, Nat.le_refl _⟩ (Or.inr rfl) ⟨congrArg some (congrArg Value.int (by simp only [f_Hk_keeps, if_neg h1, if_neg h2])), rfl⟩
def f_Hk_value (x : Int32) : Int32 := ((f_Lo_value x) + x)
theorem ct_Hk_value (h : mm_Hp) {q ci : Nat} {fs : List Nat} {r : vw_C} (hrc : vwCl[ci]? = some r) (hq : h.1[q]? = some (.inr (ci, fs))) (x : Int32) : mm_Ct 3 M_Hk_value [.ref q, .int x] h 0 0 (fun v h' => v = some (.int (f_Hk_value x)) ∧ h' = h) := by
  have hlt : q < h.1.length := (List.getElem?_eq_some_iff.mp hq).1
  refine mm_start pl_Hk (Nat.le_of_ble_eq_true rfl) ?_
  refine mm_B ok_Hk_value 0 2 (2, [some (.ref q), some (.int x)], [.int x, .ref q], h) [] rfl trivial ?_
  refine mm_cX (as := [.int x]) (st := []) (q := q) cw_Lo_value lk_Hk_15 sm_Lo_value su_Hk_Lo in_Lo_value (by decide) hrc hq (mm_at ok_Hk_value (i := 2) rfl).1 (ct_Lo_value h hrc hq x) (by decide) ⟨by omega, by omega⟩ (Nat.le_of_ble_eq_true rfl) (mm_vs_c hlt (mm_vs_b (b := 0) rfl (Nat.zero_le _))) (fun v h' hqq => ?_)
  obtain ⟨rfl, hqe⟩ := hqq; rw [hqe]
  refine mm_B ok_Hk_value 3 2 (7, [some (.ref q), some (.int x)], [.int ((f_Lo_value x) + x)], h) [] rfl trivial ?_
  exact mm_ri rfl (mm_at ok_Hk_value (i := 5) rfl).1 ⟨Nat.le_refl _, Nat.le_refl _⟩ ⟨congrArg some (congrArg Value.int (rfl)), rfl⟩
def f_So_times (x : Int32) : Int32 := ((f_Kd_times x) + (x - x / 2 * 2))
theorem ct_So_times (h : mm_Hp) {q ci : Nat} {fs : List Nat} {r : vw_C} (hrc : vwCl[ci]? = some r) (hq : h.1[q]? = some (.inr (ci, fs))) (x : Int32) : mm_Ct 2 M_So_times [.ref q, .int x] h 0 0 (fun v h' => v = some (.int (f_So_times x)) ∧ h' = h) := by
  have hlt : q < h.1.length := (List.getElem?_eq_some_iff.mp hq).1
  refine mm_start pl_So (Nat.le_of_ble_eq_true rfl) ?_
  refine mm_B ok_So_times 0 2 (2, [some (.ref q), some (.int x)], [.int x, .ref q], h) [] rfl trivial ?_
  refine mm_cY (sc := "SchoolOnRaft$LightKind") (as := [.int x]) (st := []) (q := q) cw_Kd_times lk_So_7 si_Li_times su_So_Li su_Li_Kd in_Kd_times (by decide) hrc hq (mm_at ok_So_times (i := 2) rfl).1 (ct_Kd_times h q x) (by decide) ⟨by omega, by omega⟩ (Nat.le_of_ble_eq_true rfl) (mm_vs_c hlt (mm_vs_b (b := 0) rfl (Nat.zero_le _))) (fun v h' hqq => ?_)
  obtain ⟨rfl, hqe⟩ := hqq; rw [hqe]
  refine mm_B ok_So_times 3 4 (9, [some (.ref q), some (.int x)], [.int ((f_Kd_times x) + (x - x / 2 * 2))], h) [¬ (2 : Int32) = 0] rfl (show ¬ (2 : Int32) = 0 from (by first | exact mm_vi rfl | assumption | decide)) ?_
  exact mm_ri rfl (mm_at ok_So_times (i := 7) rfl).1 ⟨Nat.le_refl _, Nat.le_refl _⟩ ⟨congrArg some (congrArg Value.int (rfl)), rfl⟩
def f_So_keeps (x y : Int32) : Int32 := (if (f_Li_keeps x y) = 0 then (if (y - y / 2 * 2) = 0 then 1 else 0) else 1)
theorem zo_So_keeps (x y : Int32) : f_So_keeps x y = 0 ∨ f_So_keeps x y = 1 := by
  unfold f_So_keeps
  repeat' split
  all_goals first | exact Or.inl rfl | exact Or.inr rfl
theorem ct_So_keeps (h : mm_Hp) {q ci : Nat} {fs : List Nat} {r : vw_C} (hrc : vwCl[ci]? = some r) (hq : h.1[q]? = some (.inr (ci, fs))) (x y : Int32) : mm_Ct 2 M_So_keeps [.ref q, .int x, .int y] h 0 0 (fun v h' => v = some (.int (f_So_keeps x y)) ∧ h' = h) := by
  have hlt : q < h.1.length := (List.getElem?_eq_some_iff.mp hq).1
  refine mm_start pl_So (Nat.le_of_ble_eq_true rfl) ?_
  refine mm_B ok_So_keeps 0 3 (3, [some (.ref q), some (.int x), some (.int y)], [.int y, .int x, .ref q], h) [] rfl trivial ?_
  refine mm_cX (as := [.int x, .int y]) (st := []) (q := q) cw_Li_keeps lk_So_11 sm_Li_keeps su_So_Li in_Li_keeps (by decide) hrc hq (mm_at ok_So_keeps (i := 3) rfl).1 (ct_Li_keeps h q x y) (by decide) ⟨by omega, by omega⟩ (Nat.le_of_ble_eq_true rfl) (mm_vs_c hlt (mm_vs_b (b := 0) rfl (Nat.zero_le _))) (fun v h' hqq => ?_)
  obtain ⟨rfl, hqe⟩ := hqq; rw [hqe]
  refine mm_I ok_So_keeps 4 0 6 [some (.ref q), some (.int x), some (.int y)] [.int (f_Li_keeps x y)] h [] rfl trivial rfl rfl (fun h1 => ?_) (fun h1 => ?_)
  · refine mm_B ok_So_keeps 9 2 (20, [some (.ref q), some (.int x), some (.int y)], [.int 1], h) [] rfl trivial ?_
    exact mm_rz rfl (mm_at ok_So_keeps (i := 12) rfl).1 ⟨Nat.le_refl _, Nat.le_refl _⟩ (Or.inr rfl) ⟨congrArg some (congrArg Value.int (by simp only [f_So_keeps, if_neg h1])), rfl⟩
  · refine mm_I ok_So_keeps 5 3 12 [some (.ref q), some (.int x), some (.int y)] [.int (y - y / 2 * 2)] h [¬ (2 : Int32) = 0] rfl (show ¬ (2 : Int32) = 0 from (by first | exact mm_vi rfl | assumption | decide)) rfl rfl (fun h2 => ?_) (fun h2 => ?_)
    · refine mm_B ok_So_keeps 11 1 (20, [some (.ref q), some (.int x), some (.int y)], [.int 0], h) [] rfl trivial ?_
      exact mm_rz rfl (mm_at ok_So_keeps (i := 12) rfl).1 ⟨Nat.le_refl _, Nat.le_refl _⟩ (Or.inl rfl) ⟨congrArg some (congrArg Value.int (by simp only [f_So_keeps, if_pos h1, if_neg h2])), rfl⟩
    · refine mm_B ok_So_keeps 9 2 (20, [some (.ref q), some (.int x), some (.int y)], [.int 1], h) [] rfl trivial ?_
      exact mm_rz rfl (mm_at ok_So_keeps (i := 12) rfl).1 ⟨Nat.le_refl _, Nat.le_refl _⟩ (Or.inr rfl) ⟨congrArg some (congrArg Value.int (by simp only [f_So_keeps, if_pos h1, if_pos h2])), rfl⟩
def f_So_value (x : Int32) : Int32 := ((f_Li_value x) / 2)
theorem ct_So_value (h : mm_Hp) {q ci : Nat} {fs : List Nat} {r : vw_C} (hrc : vwCl[ci]? = some r) (hq : h.1[q]? = some (.inr (ci, fs))) (x : Int32) : mm_Ct 3 M_So_value [.ref q, .int x] h 0 0 (fun v h' => v = some (.int (f_So_value x)) ∧ h' = h) := by
  have hlt : q < h.1.length := (List.getElem?_eq_some_iff.mp hq).1
  refine mm_start pl_So (Nat.le_of_ble_eq_true rfl) ?_
  refine mm_B ok_So_value 0 2 (2, [some (.ref q), some (.int x)], [.int x, .ref q], h) [] rfl trivial ?_
  refine mm_cX (as := [.int x]) (st := []) (q := q) cw_Li_value lk_So_15 sm_Li_value su_So_Li in_Li_value (by decide) hrc hq (mm_at ok_So_value (i := 2) rfl).1 (ct_Li_value h hrc hq x) (by decide) ⟨by omega, by omega⟩ (Nat.le_of_ble_eq_true rfl) (mm_vs_c hlt (mm_vs_b (b := 0) rfl (Nat.zero_le _))) (fun v h' hqq => ?_)
  obtain ⟨rfl, hqe⟩ := hqq; rw [hqe]
  refine mm_B ok_So_value 3 2 (7, [some (.ref q), some (.int x)], [.int ((f_Li_value x) / 2)], h) [¬ (2 : Int32) = 0] rfl (show ¬ (2 : Int32) = 0 from (by first | exact mm_vi rfl | assumption | decide)) ?_
  exact mm_ri rfl (mm_at ok_So_value (i := 5) rfl).1 ⟨Nat.le_refl _, Nat.le_refl _⟩ ⟨congrArg some (congrArg Value.int (rfl)), rfl⟩
def f_Pk_value (x : Int32) : Int32 := ((f_Lo_value x) + 7)
theorem ct_Pk_value (h : mm_Hp) {q ci : Nat} {fs : List Nat} {r : vw_C} (hrc : vwCl[ci]? = some r) (hq : h.1[q]? = some (.inr (ci, fs))) (x : Int32) : mm_Ct 3 M_Pk_value [.ref q, .int x] h 0 0 (fun v h' => v = some (.int (f_Pk_value x)) ∧ h' = h) := by
  have hlt : q < h.1.length := (List.getElem?_eq_some_iff.mp hq).1
  refine mm_start pl_Pk (Nat.le_of_ble_eq_true rfl) ?_
  refine mm_B ok_Pk_value 0 2 (2, [some (.ref q), some (.int x)], [.int x, .ref q], h) [] rfl trivial ?_
  refine mm_cX (as := [.int x]) (st := []) (q := q) cw_Lo_value lk_Pk_7 sm_Lo_value su_Pk_Lo in_Lo_value (by decide) hrc hq (mm_at ok_Pk_value (i := 2) rfl).1 (ct_Lo_value h hrc hq x) (by decide) ⟨by omega, by omega⟩ (Nat.le_of_ble_eq_true rfl) (mm_vs_c hlt (mm_vs_b (b := 0) rfl (Nat.zero_le _))) (fun v h' hqq => ?_)
  obtain ⟨rfl, hqe⟩ := hqq; rw [hqe]
  refine mm_B ok_Pk_value 3 2 (8, [some (.ref q), some (.int x)], [.int ((f_Lo_value x) + 7)], h) [] rfl trivial ?_
  exact mm_ri rfl (mm_at ok_Pk_value (i := 5) rfl).1 ⟨Nat.le_refl _, Nat.le_refl _⟩ ⟨congrArg some (congrArg Value.int (rfl)), rfl⟩
