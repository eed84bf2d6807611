/-! ===== calls on a kind, of the six at cells 19 .. 24 ===== -/
def vt_times (k : Nat) (x : Int32) : Int32 := match k with
  | 0 => f_Kd_times x
  | 1 => f_Lo_times x
  | 2 => f_Kd_times x
  | 3 => f_Hk_times x
  | 4 => f_So_times x
  | _ => f_Lo_times x
theorem vc_times {d : Nat} {M : mm_M} {mc ms : Nat} {Q : Option Value → mm_Hp → Prop} {nc ns pc : Nat} {lv : mm_L} {st : List Value} {dy : List mm_Sh} {g : Nat → Nat → Int32} {r : (Nat → Nat → Int64) × Nat × (Nat → Int32)} {idx k : Nat} {x : Int32} (hk : k < 6) (hlk : Cond.methodLink M.1.cls idx M_Kd_times.1 ∈ mm_G) (hd : decode M.2.1 pc = .ok (.invokevirtual idx, 3)) (hdd : 4 ≤ d) (hm : nc ≤ mc ∧ ns ≤ ms) (hcat : (st.map Value.category).sum ≤ 8) (hvs : mm_vs (hp_SH ++ dy).length lv st) (kk : mm_W d M mc ms Q nc ns (pc + 3, lv, .int (vt_times k x) :: st, (hp_SH ++ dy, g, r))) : mm_W d M mc ms Q nc ns (pc, lv, .int x :: .ref (19 + k) :: st, (hp_SH ++ dy, g, r)) := by
  match k, hk, kk with
  | 0, _, kk =>
    refine mm_cV (as := [.int x]) (st := st) (q := 19) cw_Kd_times hlk in_Kd_times sl_Kd_times rfl rfl hd (ct_Kd_times _ 19 x) (Nat.le_trans (by decide) hdd) hm hcat hvs (fun v h' hqq => ?_)
    obtain ⟨rfl, hqe⟩ := hqq
    rw [hqe]
    exact kk
  | 1, _, kk =>
    refine mm_cU (x := M_Kd_times.1) (as := [.int x]) (st := st) (q := 20) cw_Lo_times hlk sm_Kd_times in_Kd_times cw_Kd_times.1 ⟨by decide, by decide, rfl⟩ in_Lo_times sl_Lo_Kd_times_Lo_times rfl rfl hd (ct_Lo_times _ (q := 20) (ci := 4) rfl rfl x) (Nat.le_trans (by decide) hdd) hm hcat hvs (fun v h' hqq => ?_)
    obtain ⟨rfl, hqe⟩ := hqq
    rw [hqe]
    exact kk
  | 2, _, kk =>
    refine mm_cU (x := M_Kd_times.1) (as := [.int x]) (st := st) (q := 21) cw_Kd_times hlk sm_Kd_times in_Kd_times cw_Kd_times.1 ⟨by decide, by decide, rfl⟩ in_Kd_times sl_Li_Kd_times_Kd_times rfl rfl hd (ct_Kd_times _ 21 x) (Nat.le_trans (by decide) hdd) hm hcat hvs (fun v h' hqq => ?_)
    obtain ⟨rfl, hqe⟩ := hqq
    rw [hqe]
    exact kk
  | 3, _, kk =>
    refine mm_cU (x := M_Kd_times.1) (as := [.int x]) (st := st) (q := 22) cw_Hk_times hlk sm_Kd_times in_Kd_times cw_Kd_times.1 ⟨by decide, by decide, rfl⟩ in_Hk_times sl_Hk_Kd_times_Hk_times rfl rfl hd (ct_Hk_times _ (q := 22) (ci := 1) rfl rfl x) (Nat.le_trans (by decide) hdd) hm hcat hvs (fun v h' hqq => ?_)
    obtain ⟨rfl, hqe⟩ := hqq
    rw [hqe]
    exact kk
  | 4, _, kk =>
    refine mm_cU (x := M_Kd_times.1) (as := [.int x]) (st := st) (q := 23) cw_So_times hlk sm_Kd_times in_Kd_times cw_Kd_times.1 ⟨by decide, by decide, rfl⟩ in_So_times sl_So_Kd_times_So_times rfl rfl hd (ct_So_times _ (q := 23) (ci := 8) rfl rfl x) (Nat.le_trans (by decide) hdd) hm hcat hvs (fun v h' hqq => ?_)
    obtain ⟨rfl, hqe⟩ := hqq
    rw [hqe]
    exact kk
  | 5, _, kk =>
    refine mm_cU (x := M_Kd_times.1) (as := [.int x]) (st := st) (q := 24) cw_Lo_times hlk sm_Kd_times in_Kd_times cw_Kd_times.1 ⟨by decide, by decide, rfl⟩ in_Lo_times sl_Pk_Kd_times_Lo_times rfl rfl hd (ct_Lo_times _ (q := 24) (ci := 5) rfl rfl x) (Nat.le_trans (by decide) hdd) hm hcat hvs (fun v h' hqq => ?_)
    obtain ⟨rfl, hqe⟩ := hqq
    rw [hqe]
    exact kk
def vt_keeps (k : Nat) (x y : Int32) : Int32 := match k with
  | 0 => f_Kd_keeps x y
  | 1 => f_Kd_keeps x y
  | 2 => f_Li_keeps x y
  | 3 => f_Hk_keeps x y
  | 4 => f_So_keeps x y
  | _ => f_Kd_keeps x y
theorem vc_keeps {d : Nat} {M : mm_M} {mc ms : Nat} {Q : Option Value → mm_Hp → Prop} {nc ns pc : Nat} {lv : mm_L} {st : List Value} {dy : List mm_Sh} {g : Nat → Nat → Int32} {r : (Nat → Nat → Int64) × Nat × (Nat → Int32)} {idx k : Nat} {x y : Int32} (hk : k < 6) (hlk : Cond.methodLink M.1.cls idx M_Kd_keeps.1 ∈ mm_G) (hd : decode M.2.1 pc = .ok (.invokevirtual idx, 3)) (hdd : 3 ≤ d) (hm : nc ≤ mc ∧ ns ≤ ms) (hcat : (st.map Value.category).sum ≤ 8) (hvs : mm_vs (hp_SH ++ dy).length lv st) (kk : mm_W d M mc ms Q nc ns (pc + 3, lv, .int (vt_keeps k x y) :: st, (hp_SH ++ dy, g, r))) : mm_W d M mc ms Q nc ns (pc, lv, .int y :: .int x :: .ref (19 + k) :: st, (hp_SH ++ dy, g, r)) := by
  match k, hk, kk with
  | 0, _, kk =>
    refine mm_cV (as := [.int x, .int y]) (st := st) (q := 19) cw_Kd_keeps hlk in_Kd_keeps sl_Kd_keeps rfl rfl hd (ct_Kd_keeps _ 19 x y) (Nat.le_trans (by decide) hdd) hm hcat hvs (fun v h' hqq => ?_)
    obtain ⟨rfl, hqe⟩ := hqq
    rw [hqe]
    exact kk
  | 1, _, kk =>
    refine mm_cU (x := M_Kd_keeps.1) (as := [.int x, .int y]) (st := st) (q := 20) cw_Kd_keeps hlk sm_Kd_keeps in_Kd_keeps cw_Kd_keeps.1 ⟨by decide, by decide, rfl⟩ in_Kd_keeps sl_Lo_Kd_keeps_Kd_keeps rfl rfl hd (ct_Kd_keeps _ 20 x y) (Nat.le_trans (by decide) hdd) hm hcat hvs (fun v h' hqq => ?_)
    obtain ⟨rfl, hqe⟩ := hqq
    rw [hqe]
    exact kk
  | 2, _, kk =>
    refine mm_cU (x := M_Kd_keeps.1) (as := [.int x, .int y]) (st := st) (q := 21) cw_Li_keeps hlk sm_Kd_keeps in_Kd_keeps cw_Kd_keeps.1 ⟨by decide, by decide, rfl⟩ in_Li_keeps sl_Li_Kd_keeps_Li_keeps rfl rfl hd (ct_Li_keeps _ 21 x y) (Nat.le_trans (by decide) hdd) hm hcat hvs (fun v h' hqq => ?_)
    obtain ⟨rfl, hqe⟩ := hqq
    rw [hqe]
    exact kk
  | 3, _, kk =>
    refine mm_cU (x := M_Kd_keeps.1) (as := [.int x, .int y]) (st := st) (q := 22) cw_Hk_keeps hlk sm_Kd_keeps in_Kd_keeps cw_Kd_keeps.1 ⟨by decide, by decide, rfl⟩ in_Hk_keeps sl_Hk_Kd_keeps_Hk_keeps rfl rfl hd (ct_Hk_keeps _ (q := 22) (ci := 1) rfl rfl x y) (Nat.le_trans (by decide) hdd) hm hcat hvs (fun v h' hqq => ?_)
    obtain ⟨rfl, hqe⟩ := hqq
    rw [hqe]
    exact kk
  | 4, _, kk =>
    refine mm_cU (x := M_Kd_keeps.1) (as := [.int x, .int y]) (st := st) (q := 23) cw_So_keeps hlk sm_Kd_keeps in_Kd_keeps cw_Kd_keeps.1 ⟨by decide, by decide, rfl⟩ in_So_keeps sl_So_Kd_keeps_So_keeps rfl rfl hd (ct_So_keeps _ (q := 23) (ci := 8) rfl rfl x y) (Nat.le_trans (by decide) hdd) hm hcat hvs (fun v h' hqq => ?_)
    obtain ⟨rfl, hqe⟩ := hqq
    rw [hqe]
    exact kk
  | 5, _, kk =>
    refine mm_cU (x := M_Kd_keeps.1) (as := [.int x, .int y]) (st := st) (q := 24) cw_Kd_keeps hlk sm_Kd_keeps in_Kd_keeps cw_Kd_keeps.1 ⟨by decide, by decide, rfl⟩ in_Kd_keeps sl_Pk_Kd_keeps_Kd_keeps rfl rfl hd (ct_Kd_keeps _ 24 x y) (Nat.le_trans (by decide) hdd) hm hcat hvs (fun v h' hqq => ?_)
    obtain ⟨rfl, hqe⟩ := hqq
    rw [hqe]
    exact kk
def vt_value (k : Nat) (x : Int32) : Int32 := match k with
  | 0 => f_Kd_value x
  | 1 => f_Lo_value x
  | 2 => f_Li_value x
  | 3 => f_Hk_value x
  | 4 => f_So_value x
  | _ => f_Pk_value x
theorem vc_value {d : Nat} {M : mm_M} {mc ms : Nat} {Q : Option Value → mm_Hp → Prop} {nc ns pc : Nat} {lv : mm_L} {st : List Value} {dy : List mm_Sh} {g : Nat → Nat → Int32} {r : (Nat → Nat → Int64) × Nat × (Nat → Int32)} {idx k : Nat} {x : Int32} (hk : k < 6) (hlk : Cond.methodLink M.1.cls idx M_Kd_value.1 ∈ mm_G) (hd : decode M.2.1 pc = .ok (.invokevirtual idx, 3)) (hdd : 4 ≤ d) (hm : nc ≤ mc ∧ ns ≤ ms) (hcat : (st.map Value.category).sum ≤ 8) (hvs : mm_vs (hp_SH ++ dy).length lv st) (kk : mm_W d M mc ms Q nc ns (pc + 3, lv, .int (vt_value k x) :: st, (hp_SH ++ dy, g, r))) : mm_W d M mc ms Q nc ns (pc, lv, .int x :: .ref (19 + k) :: st, (hp_SH ++ dy, g, r)) := by
  match k, hk, kk with
  | 0, _, kk =>
    refine mm_cV (as := [.int x]) (st := st) (q := 19) cw_Kd_value hlk in_Kd_value sl_Kd_value rfl rfl hd (ct_Kd_value _ 19 x) (Nat.le_trans (by decide) hdd) hm hcat hvs (fun v h' hqq => ?_)
    obtain ⟨rfl, hqe⟩ := hqq
    rw [hqe]
    exact kk
  | 1, _, kk =>
    refine mm_cU (x := M_Kd_value.1) (as := [.int x]) (st := st) (q := 20) cw_Lo_value hlk sm_Kd_value in_Kd_value cw_Kd_value.1 ⟨by decide, by decide, rfl⟩ in_Lo_value sl_Lo_Kd_value_Lo_value rfl rfl hd (ct_Lo_value _ (q := 20) (ci := 4) rfl rfl x) (Nat.le_trans (by decide) hdd) hm hcat hvs (fun v h' hqq => ?_)
    obtain ⟨rfl, hqe⟩ := hqq
    rw [hqe]
    exact kk
  | 2, _, kk =>
    refine mm_cU (x := M_Kd_value.1) (as := [.int x]) (st := st) (q := 21) cw_Li_value hlk sm_Kd_value in_Kd_value cw_Kd_value.1 ⟨by decide, by decide, rfl⟩ in_Li_value sl_Li_Kd_value_Li_value rfl rfl hd (ct_Li_value _ (q := 21) (ci := 3) rfl rfl x) (Nat.le_trans (by decide) hdd) hm hcat hvs (fun v h' hqq => ?_)
    obtain ⟨rfl, hqe⟩ := hqq
    rw [hqe]
    exact kk
  | 3, _, kk =>
    refine mm_cU (x := M_Kd_value.1) (as := [.int x]) (st := st) (q := 22) cw_Hk_value hlk sm_Kd_value in_Kd_value cw_Kd_value.1 ⟨by decide, by decide, rfl⟩ in_Hk_value sl_Hk_Kd_value_Hk_value rfl rfl hd (ct_Hk_value _ (q := 22) (ci := 1) rfl rfl x) (Nat.le_trans (by decide) hdd) hm hcat hvs (fun v h' hqq => ?_)
    obtain ⟨rfl, hqe⟩ := hqq
    rw [hqe]
    exact kk
  | 4, _, kk =>
    refine mm_cU (x := M_Kd_value.1) (as := [.int x]) (st := st) (q := 23) cw_So_value hlk sm_Kd_value in_Kd_value cw_Kd_value.1 ⟨by decide, by decide, rfl⟩ in_So_value sl_So_Kd_value_So_value rfl rfl hd (ct_So_value _ (q := 23) (ci := 8) rfl rfl x) (Nat.le_trans (by decide) hdd) hm hcat hvs (fun v h' hqq => ?_)
    obtain ⟨rfl, hqe⟩ := hqq
    rw [hqe]
    exact kk
  | 5, _, kk =>
    refine mm_cU (x := M_Kd_value.1) (as := [.int x]) (st := st) (q := 24) cw_Pk_value hlk sm_Kd_value in_Kd_value cw_Kd_value.1 ⟨by decide, by decide, rfl⟩ in_Pk_value sl_Pk_Kd_value_Pk_value rfl rfl hd (ct_Pk_value _ (q := 24) (ci := 5) rfl rfl x) (Nat.le_trans (by decide) hdd) hm hcat hvs (fun v h' hqq => ?_)
    obtain ⟨rfl, hqe⟩ := hqq
    rw [hqe]
    exact kk
theorem vn_keeps : ∀ k, k < 6 → ∀ n, n < 10 → ∀ d, d < 8 → vt_keeps k (nI n) (nI d) = if sp_kp k n d = true then 1 else 0 := by decide +kernel
theorem vn_times : ∀ k, k < 6 → ∀ n, n < 10 → vt_times k (nI n) = nI (sp_tm k n) := by decide +kernel
theorem vn_value : ∀ k, k < 6 → ∀ n, n < 10 → vt_value k (nI n) = nI (sp_vl k n) := by decide +kernel
