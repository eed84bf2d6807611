/-! ===== the model: part, read, says ===== -/
theorem sc_cases {B : Nat → Int32} {n F q : Nat} {key : Int32} {res : (Nat × List Int32) ⊕ Nat} (h : sc_ B n F key q = some res) : (¬ tk_ B n q = key ∧ res = .inr (ts_ B n q)) ∨ (tk_ B n q = key ∧ ((∃ e, ps_ B n F 0 0 (nx_ B n q) = some (.inr e) ∧ res = .inr e) ∨ ∃ q1 c, ps_ B n F 0 0 (nx_ B n q) = some (.inl (q1, c)) ∧ ((tk_ B n q1 = -18 ∧ res = .inl (nx_ B n q1, c)) ∨ (¬ tk_ B n q1 = -18 ∧ res = .inr (ts_ B n q1))))) := by
  unfold sc_ at h
  split at h
  · rename_i h1
    refine Or.inr ⟨h1, ?_⟩
    rcases pb_inv h with ⟨e, h2, h3⟩ | ⟨q1, c, h2, h3⟩
    · exact Or.inl ⟨e, h2, h3⟩
    · refine Or.inr ⟨q1, c, h2, ?_⟩
      split at h3
      · rename_i h4
        exact Or.inl ⟨h4, (Option.some.inj h3).symm⟩
      · rename_i h4
        exact Or.inr ⟨h4, (Option.some.inj h3).symm⟩
  · rename_i h1
    exact Or.inl ⟨h1, (Option.some.inj h).symm⟩
theorem ct_Mo_part (dy : List mm_Sh) (g : Nat → Nat → Int32) (r : (Nat → Nat → Int64) × Nat × (Nat → Int32)) {n t F q : Nat} {B sc : Nat → Int32} {key : Int32} {res : (Nat × List Int32) ⊕ Nat} (hq : q ≤ n) (hkey : ¬ key = -23) (hx : mx_ g t n B sc) (hms : ms_ B n g r (ts_ B n q) 0) (hs : sc_ B n F key q = some res) : mm_Ct 52 M_Mo_part [.ref 52, .int (if tk_ B n q = key then 1 else 0)] (hp_SH ++ dy, g, r) 0 0 (mq_ dy r.2 B n sc 0 g [] res) := by
  obtain ⟨hml, h28, h29⟩ := hms
  have hnx := nx_ub B hq
  refine mm_start pl_Mo (Nat.le_of_ble_eq_true rfl) ?_
  rcases sc_cases hs with ⟨h1, rfl⟩ | ⟨h1, h2⟩
  · rw [if_neg h1]
    refine mm_I ok_Mo_part 0 1 1 [some (.ref 52), some (.int 0), none] [.int 0] (hp_SH ++ dy, g, r) [] rfl trivial rfl rfl (fun q => False.elim (q rfl)) (fun _ => ?_)
    refine mm_B ok_Mo_part 2 1 (5, [some (.ref 52), some (.int 0), none], [.ref 52], (hp_SH ++ dy, g, r)) [] rfl trivial ?_
    refine mm_cV (as := []) (st := []) (q := 52) cw_Mo_fail lk_Mo_184 in_Mo_fail sl_Mo_fail rfl rfl (mm_at ok_Mo_part (i := 3) rfl).1 (ct_Mo_fail0 dy g r h29) (by decide) ⟨by omega, by omega⟩ (Nat.le_of_ble_eq_true rfl) (mm_vs_b (b := 77) rfl (hp_len dy)) (fun v h' hqq => ?_)
    obtain ⟨rfl, hqe⟩ := hqq; rw [hqe]
    refine mm_I ok_Mo_part 4 2 12 [some (.ref 52), some (.int 0), none] [.int ((mm_up (mm_up g 52 29 1) 52 30 (g 52 26)) 52 29)] (hp_SH ++ dy, mm_up (mm_up g 52 29 1) 52 30 (g 52 26), r) [] rfl trivial rfl rfl (fun _ => ?_) (fun q => False.elim (absurd (show (1 : Int32) = 0 from q) (by decide)))
    refine mm_I ok_Mo_part 9 2 23 [some (.ref 52), some (.int 0), none] [.int ((mm_up (mm_up g 52 29 1) 52 30 (g 52 26)) 52 29)] (hp_SH ++ dy, mm_up (mm_up g 52 29 1) 52 30 (g 52 26), r) [] rfl trivial rfl rfl (fun q => False.elim (absurd (show (1 : Int32) = 0 from q) (by decide))) (fun _ => ?_)
    refine mm_B ok_Mo_part 12 2 (34, [some (.ref 52), some (.int 0), none], [.int 0], (hp_SH ++ dy, mm_up (mm_up g 52 29 1) 52 30 (g 52 26), r)) [] rfl trivial ?_
    refine mm_B ok_Mo_part 16 3 (38, [some (.ref 52), some (.int 0), some (.int 0)], [.int 59, .ref 52], (hp_SH ++ dy, mm_up (mm_up g 52 29 1) 52 30 (g 52 26), r)) [] rfl trivial ?_
    refine mm_cV (as := [.int 59]) (st := []) (q := 52) cw_Mo_isSign lk_Mo_212 in_Mo_isSign sl_Mo_isSign rfl rfl (mm_at ok_Mo_part (i := 19) rfl).1 (ct_Mo_isSign1 dy (mm_up (mm_up g 52 29 1) 52 30 (g 52 26)) r rfl 59) (by decide) ⟨by omega, by omega⟩ (Nat.le_of_ble_eq_true rfl) (mm_vs_b (b := 77) rfl (hp_len dy)) (fun v h' hqq => ?_)
    obtain ⟨rfl, hqe⟩ := hqq; rw [hqe]
    refine mm_I ok_Mo_part 20 0 41 [some (.ref 52), some (.int 0), some (.int 0)] [.int 0] (hp_SH ++ dy, mm_up (mm_up g 52 29 1) 52 30 (g 52 26), r) [] rfl trivial rfl rfl (fun q => False.elim (q rfl)) (fun _ => ?_)
    refine mm_B ok_Mo_part 21 1 (45, [some (.ref 52), some (.int 0), some (.int 0)], [.ref 52], (hp_SH ++ dy, mm_up (mm_up g 52 29 1) 52 30 (g 52 26), r)) [] rfl trivial ?_
    refine mm_cV (as := []) (st := []) (q := 52) cw_Mo_fail lk_Mo_184 in_Mo_fail sl_Mo_fail rfl rfl (mm_at ok_Mo_part (i := 22) rfl).1 (ct_Mo_fail1 dy (mm_up (mm_up g 52 29 1) 52 30 (g 52 26)) r rfl) (by decide) ⟨by omega, by omega⟩ (Nat.le_of_ble_eq_true rfl) (mm_vs_b (b := 77) rfl (hp_len dy)) (fun v h' hqq => ?_)
    obtain ⟨rfl, hqe⟩ := hqq; rw [hqe]
    refine mm_I ok_Mo_part 23 2 52 [some (.ref 52), some (.int 0), some (.int 0)] [.int ((mm_up (mm_up g 52 29 1) 52 30 (g 52 26)) 52 29)] (hp_SH ++ dy, mm_up (mm_up g 52 29 1) 52 30 (g 52 26), r) [] rfl trivial rfl rfl (fun _ => ?_) (fun q => False.elim (absurd (show (1 : Int32) = 0 from q) (by decide)))
    refine mm_B ok_Mo_part 28 1 (60, [some (.ref 52), some (.int 0), some (.int 0)], [.int 0], (hp_SH ++ dy, mm_up (mm_up g 52 29 1) 52 30 (g 52 26), r)) [] rfl trivial ?_
    exact mm_ri rfl (mm_at ok_Mo_part (i := 29) rfl).1 ⟨Nat.le_refl _, Nat.le_refl _⟩ (⟨_, rfl, _, r, rfl, rfl, (fr_.rf.up _ rfl).up _ rfl, rfl, hml.2.2.1⟩)
  · have h23 : ¬ tk_ B n q = -23 := by rw [h1]; exact hkey
    rw [if_pos h1]
    refine mm_I ok_Mo_part 0 1 1 [some (.ref 52), some (.int 1), none] [.int 1] (hp_SH ++ dy, g, r) [] rfl trivial rfl rfl (fun _ => ?_) (fun q => False.elim (absurd q (by decide)))
    refine mm_B ok_Mo_part 4 2 (12, [some (.ref 52), some (.int 1), none], [.int (g 52 29)], (hp_SH ++ dy, g, r)) [] rfl trivial ?_
    rw [h29]
    refine mm_I ok_Mo_part 6 0 12 [some (.ref 52), some (.int 1), none] [.int 0] (hp_SH ++ dy, g, r) [] rfl trivial rfl rfl (fun q => False.elim (absurd rfl q)) (fun _ => ?_)
    refine mm_B ok_Mo_part 7 1 (16, [some (.ref 52), some (.int 1), none], [.ref 52], (hp_SH ++ dy, g, r)) [] rfl trivial ?_
    refine mm_cV (as := []) (st := []) (q := 52) cw_Mo_next lk_Mo_187 in_Mo_next sl_Mo_next rfl rfl (mm_at ok_Mo_part (i := 8) rfl).1 (ct_Mo_next dy g r hx hnx (ms_nx hml h23)) (by decide) ⟨by omega, by omega⟩ (Nat.le_of_ble_eq_true rfl) (mm_vs_b (b := 77) rfl (hp_len dy)) (fun v h' hqq => ?_)
    obtain ⟨rfl, g2, r2, hqe, hr2, hF2, hml2⟩ := hqq; rw [hqe]
    have hx2 := mx_fr hx (hF2.mono mf_mg)
    have h229 : g2 52 29 = 0 := (hF2 52 29 rfl).trans h29
    refine mm_B ok_Mo_part 9 2 (23, [some (.ref 52), some (.int 1), none], [.int (g2 52 29)], (hp_SH ++ dy, g2, r2)) [] rfl trivial ?_
    rw [h229]
    refine mm_I ok_Mo_part 11 0 23 [some (.ref 52), some (.int 1), none] [.int 0] (hp_SH ++ dy, g2, r2) [] rfl trivial rfl rfl (fun _ => ?_) (fun q => False.elim (absurd rfl q))
    refine mm_B ok_Mo_part 14 1 (31, [some (.ref 52), some (.int 1), none], [.ref 52], (hp_SH ++ dy, g2, r2)) [] rfl trivial ?_
    rcases h2 with ⟨e, h4, rfl⟩ | ⟨q1, c, h4, h5⟩
    · refine mm_cV (as := []) (st := []) (q := 52) cw_Mo_either lk_Mo_223 in_Mo_either sl_Mo_either rfl rfl (mm_at ok_Mo_part (i := 15) rfl).1 (mr_all dy r.2 F 0 0 (nx_ B n q) (.inr e) g2 r2 (by decide) (by decide) (by decide) hnx h4 hr2 hx2 ⟨hml2, (hF2 52 28 rfl).trans h28, h229⟩) (by decide) ⟨by omega, by omega⟩ (Nat.le_of_ble_eq_true rfl) (mm_vs_b (b := 77) rfl (hp_len dy)) (fun v h' hqq => ?_)
      obtain ⟨x, rfl, g3, r3, hqe, hr3, hF3, hb3, hf3⟩ := hqq; rw [hqe]
      refine mm_B ok_Mo_part 16 3 (38, [some (.ref 52), some (.int 1), some (.int x)], [.int 59, .ref 52], (hp_SH ++ dy, g3, r3)) [] rfl trivial ?_
      refine mm_cV (as := [.int 59]) (st := []) (q := 52) cw_Mo_isSign lk_Mo_212 in_Mo_isSign sl_Mo_isSign rfl rfl (mm_at ok_Mo_part (i := 19) rfl).1 (ct_Mo_isSign1 dy g3 r3 hb3 59) (by decide) ⟨by omega, by omega⟩ (Nat.le_of_ble_eq_true rfl) (mm_vs_b (b := 77) rfl (hp_len dy)) (fun v h' hqq => ?_)
      obtain ⟨rfl, hqe⟩ := hqq; rw [hqe]
      refine mm_I ok_Mo_part 20 0 41 [some (.ref 52), some (.int 1), some (.int x)] [.int 0] (hp_SH ++ dy, g3, r3) [] rfl trivial rfl rfl (fun q => False.elim (q rfl)) (fun _ => ?_)
      refine mm_B ok_Mo_part 21 1 (45, [some (.ref 52), some (.int 1), some (.int x)], [.ref 52], (hp_SH ++ dy, g3, r3)) [] rfl trivial ?_
      refine mm_cV (as := []) (st := []) (q := 52) cw_Mo_fail lk_Mo_184 in_Mo_fail sl_Mo_fail rfl rfl (mm_at ok_Mo_part (i := 22) rfl).1 (ct_Mo_fail1 dy g3 r3 hb3) (by decide) ⟨by omega, by omega⟩ (Nat.le_of_ble_eq_true rfl) (mm_vs_b (b := 77) rfl (hp_len dy)) (fun v h' hqq => ?_)
      obtain ⟨rfl, hqe⟩ := hqq; rw [hqe]
      refine mm_B ok_Mo_part 23 2 (52, [some (.ref 52), some (.int 1), some (.int x)], [.int (g3 52 29)], (hp_SH ++ dy, g3, r3)) [] rfl trivial ?_
      rw [hb3]
      refine mm_I ok_Mo_part 25 0 52 [some (.ref 52), some (.int 1), some (.int x)] [.int 1] (hp_SH ++ dy, g3, r3) [] rfl trivial rfl rfl (fun _ => ?_) (fun q => False.elim (absurd q (by decide)))
      refine mm_B ok_Mo_part 28 1 (60, [some (.ref 52), some (.int 1), some (.int x)], [.int x], (hp_SH ++ dy, g3, r3)) [] rfl trivial ?_
      exact mm_ri rfl (mm_at ok_Mo_part (i := 29) rfl).1 ⟨Nat.le_refl _, Nat.le_refl _⟩ (⟨_, rfl, g3, r3, rfl, hr3, (hF2.mono mf_mg).tr hF3, hb3, hf3⟩)
    · refine mm_cV (as := []) (st := []) (q := 52) cw_Mo_either lk_Mo_223 in_Mo_either sl_Mo_either rfl rfl (mm_at ok_Mo_part (i := 15) rfl).1 (mr_all dy r.2 F 0 0 (nx_ B n q) (.inl (q1, c)) g2 r2 (by decide) (by decide) (by decide) hnx h4 hr2 hx2 ⟨hml2, (hF2 52 28 rfl).trans h28, h229⟩) (by decide) ⟨by omega, by omega⟩ (Nat.le_of_ble_eq_true rfl) (mm_vs_b (b := 77) rfl (hp_len dy)) (fun v h' hqq => ?_)
      obtain ⟨x, rfl, hpx, g3, r3, hqe, hr3, hF3, hml3, h328, h329⟩ := hqq; rw [hqe]
      have hml3 : ml_ B n g3 r3 (ts_ B n q1) := hml3
      have hl2 := ps_len F _ _ _ _ _ hnx h4
      have hF23 := (hF2.mono mf_mg).tr hF3
      refine mm_B ok_Mo_part 16 3 (38, [some (.ref 52), some (.int 1), some (.int x)], [.int 59, .ref 52], (hp_SH ++ dy, g3, r3)) [] rfl trivial ?_
      refine mm_cV (as := [.int 59]) (st := []) (q := 52) cw_Mo_isSign lk_Mo_212 in_Mo_isSign sl_Mo_isSign rfl rfl (mm_at ok_Mo_part (i := 19) rfl).1 (ct_Mo_isSign dy g3 r3 hml3 h329 (x := 59) (by decide)) (by decide) ⟨by omega, by omega⟩ (Nat.le_of_ble_eq_true rfl) (mm_vs_b (b := 77) rfl (hp_len dy)) (fun v h' hqq => ?_)
      obtain ⟨rfl, hqe⟩ := hqq; rw [hqe]
      rcases h5 with ⟨h5, rfl⟩ | ⟨h5, rfl⟩
      · have h23' : ¬ tk_ B n q1 = -23 := by rw [h5]; decide
        rw [if_pos (show tk0 B n (ts_ B n q1) = sg_ 59 from h5.trans (by decide))]
        refine mm_I ok_Mo_part 20 0 41 [some (.ref 52), some (.int 1), some (.int x)] [.int 1] (hp_SH ++ dy, g3, r3) [] rfl trivial rfl rfl (fun _ => ?_) (fun q => False.elim (absurd q (by decide)))
        refine mm_B ok_Mo_part 23 2 (52, [some (.ref 52), some (.int 1), some (.int x)], [.int (g3 52 29)], (hp_SH ++ dy, g3, r3)) [] rfl trivial ?_
        rw [h329]
        refine mm_I ok_Mo_part 25 0 52 [some (.ref 52), some (.int 1), some (.int x)] [.int 0] (hp_SH ++ dy, g3, r3) [] rfl trivial rfl rfl (fun q => False.elim (absurd rfl q)) (fun _ => ?_)
        refine mm_B ok_Mo_part 26 1 (56, [some (.ref 52), some (.int 1), some (.int x)], [.ref 52], (hp_SH ++ dy, g3, r3)) [] rfl trivial ?_
        refine mm_cV (as := []) (st := []) (q := 52) cw_Mo_next lk_Mo_187 in_Mo_next sl_Mo_next rfl rfl (mm_at ok_Mo_part (i := 27) rfl).1 (ct_Mo_next dy g3 r3 (mx_fr hx hF23) (nx_ub B hl2.1.2) (ms_nx hml3 h23')) (by decide) ⟨by omega, by omega⟩ (Nat.le_of_ble_eq_true rfl) (mm_vs_b (b := 77) rfl (hp_len dy)) (fun v h' hqq => ?_)
        obtain ⟨rfl, g5, r5, hqe, hr5, hF5, hml5⟩ := hqq; rw [hqe]
        refine mm_B ok_Mo_part 28 1 (60, [some (.ref 52), some (.int 1), some (.int x)], [.int x], (hp_SH ++ dy, g5, r5)) [] rfl trivial ?_
        exact mm_ri rfl (mm_at ok_Mo_part (i := 29) rfl).1 ⟨Nat.le_refl _, Nat.le_refl _⟩ (⟨_, rfl, hpx, g5, r5, rfl, hr5.trans hr3, hF23.tr (hF5.mono mf_mg), hml5, (hF5 52 28 rfl).trans h328, (hF5 52 29 rfl).trans h329⟩)
      · rw [if_neg (show ¬ tk0 B n (ts_ B n q1) = sg_ 59 from fun e => h5 (show tk_ B n q1 = -18 from e.trans (by decide)))]
        refine mm_I ok_Mo_part 20 0 41 [some (.ref 52), some (.int 1), some (.int x)] [.int 0] (hp_SH ++ dy, g3, r3) [] rfl trivial rfl rfl (fun q => False.elim (q rfl)) (fun _ => ?_)
        refine mm_B ok_Mo_part 21 1 (45, [some (.ref 52), some (.int 1), some (.int x)], [.ref 52], (hp_SH ++ dy, g3, r3)) [] rfl trivial ?_
        refine mm_cV (as := []) (st := []) (q := 52) cw_Mo_fail lk_Mo_184 in_Mo_fail sl_Mo_fail rfl rfl (mm_at ok_Mo_part (i := 22) rfl).1 (ct_Mo_fail0 dy g3 r3 h329) (by decide) ⟨by omega, by omega⟩ (Nat.le_of_ble_eq_true rfl) (mm_vs_b (b := 77) rfl (hp_len dy)) (fun v h' hqq => ?_)
        obtain ⟨rfl, hqe⟩ := hqq; rw [hqe]
        refine mm_I ok_Mo_part 23 2 52 [some (.ref 52), some (.int 1), some (.int x)] [.int ((mm_up (mm_up g3 52 29 1) 52 30 (g3 52 26)) 52 29)] (hp_SH ++ dy, mm_up (mm_up g3 52 29 1) 52 30 (g3 52 26), r3) [] rfl trivial rfl rfl (fun _ => ?_) (fun q => False.elim (absurd (show (1 : Int32) = 0 from q) (by decide)))
        refine mm_B ok_Mo_part 28 1 (60, [some (.ref 52), some (.int 1), some (.int x)], [.int x], (hp_SH ++ dy, mm_up (mm_up g3 52 29 1) 52 30 (g3 52 26), r3)) [] rfl trivial ?_
        exact mm_ri rfl (mm_at ok_Mo_part (i := 29) rfl).1 ⟨Nat.le_refl _, Nat.le_refl _⟩ (⟨_, rfl, _, r3, rfl, hr3, (hF23.up _ rfl).up _ rfl, rfl, hml3.2.2.1⟩)
theorem mk_end (B : Nat → Int32) (n s : Nat) : mk0 B n s = 0 ↔ tk0 B n s = -22 := by
  rcases mk_cases B n s with ⟨a, b, -⟩ | ⟨a, b⟩ | ⟨a, -, m, b, c⟩ | ⟨a, -, -, -, b, -⟩ | ⟨a, -, b, c⟩
  · exact ⟨fun _ => b, fun _ => a⟩
  · rw [a, b]; decide
  · rw [a, b]
    exact ⟨fun h => absurd h (by decide), fun h => absurd h (nI_ne_neg c (by decide))⟩
  · rw [a, b]
    rcases wc_key (B := B) (s := s) (e := sk_ (lt_ B) n s) with w | w | w | w | w | w | w | w | w | w | w | w | w <;> rw [w] <;> decide
  · rw [a, c]
    rcases sg_key (x := B s) with w | w | w | w | w | w | w | w | w <;> rw [w] <;> decide
def wh_ (w p q r : Int32) : Int32 := if w = 0 then p else if w = 1 then q else r
theorem rd_end {h : mm_Hp} {a w p q r : Int32} {Q : Option Value → mm_Hp → Prop} (hQ : Q (some (.int (wh_ w p q r))) h) : mm_W 54 M_Mo_read 0 0 Q 0 0 (145, [some (.ref 52), some (.int a), some (.int w), some (.int p), some (.int q), some (.int r)], [], h) := by
  refine mm_I ok_Mo_read 79 1 146 [some (.ref 52), some (.int a), some (.int w), some (.int p), some (.int q), some (.int r)] [.int w] h [] rfl trivial rfl rfl (fun c0 => ?_) (fun c0 => ?_)
  · refine mm_I ok_Mo_read 83 2 155 [some (.ref 52), some (.int a), some (.int w), some (.int p), some (.int q), some (.int r)] [.int 1, .int w] h [] rfl trivial rfl rfl (fun c1 => ?_) (fun c1 => ?_)
    · refine mm_B ok_Mo_read 88 1 (165, [some (.ref 52), some (.int a), some (.int w), some (.int p), some (.int q), some (.int r)], [.int r], h) [] rfl trivial ?_
      exact mm_ri rfl (mm_at ok_Mo_read (i := 89) rfl).1 ⟨Nat.le_refl _, Nat.le_refl _⟩ (by unfold wh_ at hQ; rw [if_neg c0, if_neg c1] at hQ; exact hQ)
    · refine mm_B ok_Mo_read 86 2 (165, [some (.ref 52), some (.int a), some (.int w), some (.int p), some (.int q), some (.int r)], [.int q], h) [] rfl trivial ?_
      exact mm_ri rfl (mm_at ok_Mo_read (i := 89) rfl).1 ⟨Nat.le_refl _, Nat.le_refl _⟩ (by unfold wh_ at hQ; rw [if_neg c0, if_pos c1] at hQ; exact hQ)
  · refine mm_B ok_Mo_read 81 2 (165, [some (.ref 52), some (.int a), some (.int w), some (.int p), some (.int q), some (.int r)], [.int p], h) [] rfl trivial ?_
    exact mm_ri rfl (mm_at ok_Mo_read (i := 89) rfl).1 ⟨Nat.le_refl _, Nat.le_refl _⟩ (by unfold wh_ at hQ; rw [if_pos c0] at hQ; exact hQ)
def mh_ (k j : Nat) : Bool := mf_ k j || (k == 52 && (j == 22 || j == 23))
theorem mh_mf : ∀ k j, mh_ k j = false → mf_ k j = false := fun k j h => (Bool.or_eq_false_iff.mp h).1
theorem mh_nr : ∀ k j, nr_s k j = false → mh_ k j = false := by
  intro k j h
  unfold mh_
  rw [mf_nr k j h]
  cases h13 : k == 52 with
  | true =>
    rw [show k = 52 by simpa using h13] at h
    have h2 : ((Nat.ble 16 j && Nat.ble j 30) || j == 39 || j == 0) = false := h
    cases hj : (j == 22 || j == 23) with
    | true =>
      simp at hj
      rcases hj with rfl | rfl <;> cases h2
    | false => rfl
  | false => rfl
def mr_Q (dy : List mm_Sh) (rs : Nat × (Nat → Int32)) (g : Nat → Nat → Int32) (sc : Nat → Int32) (w : Int32) : tr_ → Option Value → mm_Hp → Prop
  | .inl c => fun v h' => ∃ x y z, v = some (.int (wh_ w x y z)) ∧ pv_ sc c.1 x ∧ pv_ sc c.2.1 y ∧ pv_ sc c.2.2 z ∧ ∃ g' r', h' = (hp_SH ++ dy, g', r') ∧ r'.2 = rs ∧ fr_ mh_ g g' ∧ g' 52 29 = 0
  | .inr e => fun v h' => ∃ x, v = some (.int x) ∧ ∃ g' r', h' = (hp_SH ++ dy, g', r') ∧ r'.2 = rs ∧ fr_ mh_ g g' ∧ g' 52 29 = 1 ∧ g' 52 30 = nI e
theorem mul160 {t : Nat} : (160 : Int32) * nI t = nI (160 * t) := (Int32.ofNat_mul 160 t).symm
theorem ct_Mo_read (dy : List mm_Sh) (g : Nat → Nat → Int32) (r : (Nat → Nat → Int64) × Nat × (Nat → Int32)) {n t F : Nat} {B sc : Nat → Int32} (w : Int32) {res : tr_} (ht : t < 6) (hn : n ≤ 160) (h54 : g 54 t = nI n) (hB : ∀ i, i < n → g 53 (160 * t + i) = B i ∧ 0 ≤ B i) (hsc : g 52 16 = sc 0 ∧ g 52 17 = sc 1 ∧ g 52 18 = sc 2 ∧ g 52 19 = sc 3 ∧ g 52 20 = sc 4 ∧ g 52 21 = sc 5) (hs : tx_ B n F = some res) : mm_Ct 54 M_Mo_read [.ref 52, .int (nI t), .int w] (hp_SH ++ dy, g, r) 0 0 (mr_Q dy r.2 g sc w res) := by
  refine mm_start pl_Mo (Nat.le_of_ble_eq_true rfl) ?_
  unfold tx_ at hs
  refine mm_B ok_Mo_read 0 21 (35, [some (.ref 52), some (.int (nI t)), some (.int w), none, none, none], [.ref 52], (hp_SH ++ dy, mm_up (mm_up (mm_up (mm_up (mm_up g 52 22 (160 * (nI t))) 52 23 (g 54 ((nI t).toNatClampNeg))) 52 24 0) 52 28 0) 52 29 0, r)) [vp_in (nI t) 6, (0 : Int32) = 0 ∨ (0 : Int32) = 1] rfl (show (vp_in (nI t) 6) ∧ ((0 : Int32) = 0 ∨ (0 : Int32) = 1) from ⟨(nI_vi ht (by decide)), (Or.inl rfl)⟩) ?_
  rw [mul160, nI_clamp (show t < 2 ^ 31 by omega)]
  rw [h54]
  obtain ⟨g0, hg0⟩ : ∃ x, x = mm_up (mm_up (mm_up (mm_up (mm_up g 52 22 (nI (160 * t))) 52 23 (nI n)) 52 24 0) 52 28 0) 52 29 0 := ⟨_, rfl⟩
  rw [← hg0]
  have hF0 : fr_ mh_ g g0 := by rw [hg0]; exact ((((fr_.rf.up _ rfl).up _ rfl).up _ rfl).up _ rfl).up _ rfl
  have hx0 : mx_ g0 t n B sc := ⟨by rw [hg0]; rfl, by rw [hg0]; rfl, ht, hn, fun i hi => by rw [hg0]; exact hB i hi, by rw [hg0]; exact hsc⟩
  refine mm_cV (as := []) (st := []) (q := 52) cw_Mo_next lk_Mo_187 in_Mo_next sl_Mo_next rfl rfl (mm_at ok_Mo_read (i := 21) rfl).1 (ct_Mo_next dy g0 r hx0 (q := 0) (Nat.zero_le _) (by rw [hg0]; rfl)) (by decide) ⟨by omega, by omega⟩ (Nat.le_of_ble_eq_true rfl) (mm_vs_b (b := 77) rfl (hp_len dy)) (fun v h' hqq => ?_)
  obtain ⟨rfl, g1, r1, hqe, hr1, hF1, hml1⟩ := hqq; rw [hqe]
  have hx1 := mx_fr hx0 (hF1.mono mf_mg)
  have h128 : g1 52 28 = nI 0 := (hF1 52 28 rfl).trans (by rw [hg0]; rfl)
  have h129 : g1 52 29 = 0 := (hF1 52 29 rfl).trans (by rw [hg0]; rfl)
  have hF01 : fr_ mh_ g g1 := hF0.tr (hF1.mono (fun k j h => mf_mg k j (mh_mf k j h)))
  refine mm_B ok_Mo_read 22 10 (53, [some (.ref 52), some (.int (nI t)), some (.int w), none, none, none], [.int 0, .int 0, .int 0, .int 115, .int 114, .int 97, .int 101, .int 104, .ref 52, .ref 52], (hp_SH ++ dy, g1, r1)) [] rfl trivial ?_
  refine mm_cV (as := [.int 104, .int 101, .int 97, .int 114, .int 115, .int 0, .int 0, .int 0]) (st := [.ref 52]) (q := 52) cw_Mo_isWord lk_Mo_190 in_Mo_isWord sl_Mo_isWord rfl rfl (mm_at ok_Mo_read (i := 32) rfl).1 (ct_Mo_isWord dy g1 r1 hx1 hml1 h129 (i := 9) (by decide)) (by decide) ⟨by omega, by omega⟩ (Nat.le_of_ble_eq_true rfl) (mm_vs_b (b := 77) rfl (hp_len dy)) (fun v h' hqq => ?_)
  obtain ⟨rfl, hqe⟩ := hqq; rw [hqe]
  cases h1 : sc_ B n F (-19) 0 with
  | none => rw [h1] at hs; cases hs
  | some x1 =>
  cases x1 with
  | inr e =>
    rw [h1] at hs
    cases hs
    refine mm_cV (as := [.int (if tk0 B n (ts_ B n 0) = kc_ 9 then 1 else 0)]) (st := []) (q := 52) cw_Mo_part lk_Mo_245 in_Mo_part sl_Mo_part rfl rfl (mm_at ok_Mo_read (i := 33) rfl).1 (ct_Mo_part dy g1 r1 (F := F) (key := -19) (Nat.zero_le _) (by decide) hx1 ⟨hml1, h128, h129⟩ h1) (by decide) ⟨by omega, by omega⟩ (Nat.le_of_ble_eq_true rfl) (mm_vs_b (b := 77) rfl (hp_len dy)) (fun v h' hqq => ?_)
    obtain ⟨x, rfl, g2, r2, hqe, hr2, hF2, hb2, hf2⟩ := hqq; rw [hqe]
    refine mm_B ok_Mo_read 34 3 (64, [some (.ref 52), some (.int (nI t)), some (.int w), some (.int x), none, none], [.int (g2 52 29)], (hp_SH ++ dy, g2, r2)) [] rfl trivial ?_
    rw [hb2]
    refine mm_I ok_Mo_read 37 0 64 [some (.ref 52), some (.int (nI t)), some (.int w), some (.int x), none, none] [.int 1] (hp_SH ++ dy, g2, r2) [] rfl trivial rfl rfl (fun q => False.elim (absurd q (by decide))) (fun _ => ?_)
    refine mm_B ok_Mo_read 38 2 (92, [some (.ref 52), some (.int (nI t)), some (.int w), some (.int x), none, none], [.int 0], (hp_SH ++ dy, g2, r2)) [] rfl trivial ?_
    refine mm_B ok_Mo_read 52 3 (98, [some (.ref 52), some (.int (nI t)), some (.int w), some (.int x), some (.int 0), none], [.int (g2 52 29)], (hp_SH ++ dy, g2, r2)) [] rfl trivial ?_
    rw [hb2]
    refine mm_I ok_Mo_read 55 0 98 [some (.ref 52), some (.int (nI t)), some (.int w), some (.int x), some (.int 0), none] [.int 1] (hp_SH ++ dy, g2, r2) [] rfl trivial rfl rfl (fun q => False.elim (absurd q (by decide))) (fun _ => ?_)
    refine mm_B ok_Mo_read 56 2 (125, [some (.ref 52), some (.int (nI t)), some (.int w), some (.int x), some (.int 0), none], [.int 0], (hp_SH ++ dy, g2, r2)) [] rfl trivial ?_
    refine mm_B ok_Mo_read 70 3 (131, [some (.ref 52), some (.int (nI t)), some (.int w), some (.int x), some (.int 0), some (.int 0)], [.int (g2 52 29)], (hp_SH ++ dy, g2, r2)) [] rfl trivial ?_
    rw [hb2]
    refine mm_I ok_Mo_read 73 0 131 [some (.ref 52), some (.int (nI t)), some (.int w), some (.int x), some (.int 0), some (.int 0)] [.int 1] (hp_SH ++ dy, g2, r2) [] rfl trivial rfl rfl (fun _ => ?_) (fun q => False.elim (absurd q (by decide)))
    exact rd_end ⟨_, rfl, g2, r2, rfl, hr2.trans hr1, hF01.tr (hF2.mono mh_mf), hb2, hf2⟩
  | inl y0 =>
    obtain ⟨q1, c0⟩ := y0
    rw [h1] at hs
    replace hs : tb_ (sc_ B n F (-20) q1) (fun q2 c1 => tb_ (sc_ B n F (-21) q2) (fun q3 c2 => if tk_ B n q3 = -22 then some (.inl (c0, c1, c2)) else some (.inr (ts_ B n q3)))) = some res := hs
    refine mm_cV (as := [.int (if tk0 B n (ts_ B n 0) = kc_ 9 then 1 else 0)]) (st := []) (q := 52) cw_Mo_part lk_Mo_245 in_Mo_part sl_Mo_part rfl rfl (mm_at ok_Mo_read (i := 33) rfl).1 (ct_Mo_part dy g1 r1 (F := F) (key := -19) (Nat.zero_le _) (by decide) hx1 ⟨hml1, h128, h129⟩ h1) (by decide) ⟨by omega, by omega⟩ (Nat.le_of_ble_eq_true rfl) (mm_vs_b (b := 77) rfl (hp_len dy)) (fun v h' hqq => ?_)
    obtain ⟨x, rfl, hpx, g2, r2, hqe, hr2, hF2, hml2, h228, h229⟩ := hqq; rw [hqe]
    have hml2 : ml_ B n g2 r2 (ts_ B n q1) := hml2
    have hx2 := mx_fr hx1 hF2
    have hi1 := sc_inv (Nat.zero_le _) h1
    have hF02 := hF01.tr (hF2.mono mh_mf)
    refine mm_B ok_Mo_read 34 3 (64, [some (.ref 52), some (.int (nI t)), some (.int w), some (.int x), none, none], [.int (g2 52 29)], (hp_SH ++ dy, g2, r2)) [] rfl trivial ?_
    rw [h229]
    refine mm_I ok_Mo_read 37 0 64 [some (.ref 52), some (.int (nI t)), some (.int w), some (.int x), none, none] [.int 0] (hp_SH ++ dy, g2, r2) [] rfl trivial rfl rfl (fun _ => ?_) (fun q => False.elim (absurd rfl q))
    refine mm_B ok_Mo_read 40 10 (86, [some (.ref 52), some (.int (nI t)), some (.int w), some (.int x), none, none], [.int 0, .int 0, .int 0, .int 104, .int 116, .int 114, .int 111, .int 119, .ref 52, .ref 52], (hp_SH ++ dy, g2, r2)) [] rfl trivial ?_
    refine mm_cV (as := [.int 119, .int 111, .int 114, .int 116, .int 104, .int 0, .int 0, .int 0]) (st := [.ref 52]) (q := 52) cw_Mo_isWord lk_Mo_190 in_Mo_isWord sl_Mo_isWord rfl rfl (mm_at ok_Mo_read (i := 50) rfl).1 (ct_Mo_isWord dy g2 r2 hx2 hml2 h229 (i := 10) (by decide)) (by decide) ⟨by omega, by omega⟩ (Nat.le_of_ble_eq_true rfl) (mm_vs_b (b := 77) rfl (hp_len dy)) (fun v h' hqq => ?_)
    obtain ⟨rfl, hqe⟩ := hqq; rw [hqe]
    cases h2 : sc_ B n F (-20) q1 with
    | none => rw [h2] at hs; cases hs
    | some x2 =>
    cases x2 with
    | inr e =>
      rw [h2] at hs
      cases hs
      refine mm_cV (as := [.int (if tk0 B n (ts_ B n q1) = kc_ 10 then 1 else 0)]) (st := []) (q := 52) cw_Mo_part lk_Mo_245 in_Mo_part sl_Mo_part rfl rfl (mm_at ok_Mo_read (i := 51) rfl).1 (ct_Mo_part dy g2 r2 (F := F) (key := -20) hi1.2.2 (by decide) hx2 ⟨hml2, h228, h229⟩ h2) (by decide) ⟨by omega, by omega⟩ (Nat.le_of_ble_eq_true rfl) (mm_vs_b (b := 77) rfl (hp_len dy)) (fun v h' hqq => ?_)
      obtain ⟨y, rfl, g3, r3, hqe, hr3, hF3, hb3, hf3⟩ := hqq; rw [hqe]
      refine mm_B ok_Mo_read 52 3 (98, [some (.ref 52), some (.int (nI t)), some (.int w), some (.int x), some (.int y), none], [.int (g3 52 29)], (hp_SH ++ dy, g3, r3)) [] rfl trivial ?_
      rw [hb3]
      refine mm_I ok_Mo_read 55 0 98 [some (.ref 52), some (.int (nI t)), some (.int w), some (.int x), some (.int y), none] [.int 1] (hp_SH ++ dy, g3, r3) [] rfl trivial rfl rfl (fun q => False.elim (absurd q (by decide))) (fun _ => ?_)
      refine mm_B ok_Mo_read 56 2 (125, [some (.ref 52), some (.int (nI t)), some (.int w), some (.int x), some (.int y), none], [.int 0], (hp_SH ++ dy, g3, r3)) [] rfl trivial ?_
      refine mm_B ok_Mo_read 70 3 (131, [some (.ref 52), some (.int (nI t)), some (.int w), some (.int x), some (.int y), some (.int 0)], [.int (g3 52 29)], (hp_SH ++ dy, g3, r3)) [] rfl trivial ?_
      rw [hb3]
      refine mm_I ok_Mo_read 73 0 131 [some (.ref 52), some (.int (nI t)), some (.int w), some (.int x), some (.int y), some (.int 0)] [.int 1] (hp_SH ++ dy, g3, r3) [] rfl trivial rfl rfl (fun _ => ?_) (fun q => False.elim (absurd q (by decide)))
      exact rd_end ⟨_, rfl, g3, r3, rfl, (hr3.trans hr2).trans hr1, hF02.tr (hF3.mono mh_mf), hb3, hf3⟩
    | inl y1 =>
      obtain ⟨q2, c1⟩ := y1
      rw [h2] at hs
      replace hs : tb_ (sc_ B n F (-21) q2) (fun q3 c2 => if tk_ B n q3 = -22 then some (.inl (c0, c1, c2)) else some (.inr (ts_ B n q3))) = some res := hs
      refine mm_cV (as := [.int (if tk0 B n (ts_ B n q1) = kc_ 10 then 1 else 0)]) (st := []) (q := 52) cw_Mo_part lk_Mo_245 in_Mo_part sl_Mo_part rfl rfl (mm_at ok_Mo_read (i := 51) rfl).1 (ct_Mo_part dy g2 r2 (F := F) (key := -20) hi1.2.2 (by decide) hx2 ⟨hml2, h228, h229⟩ h2) (by decide) ⟨by omega, by omega⟩ (Nat.le_of_ble_eq_true rfl) (mm_vs_b (b := 77) rfl (hp_len dy)) (fun v h' hqq => ?_)
      obtain ⟨y, rfl, hpy, g3, r3, hqe, hr3, hF3, hml3, h328, h329⟩ := hqq; rw [hqe]
      have hml3 : ml_ B n g3 r3 (ts_ B n q2) := hml3
      have hx3 := mx_fr hx2 hF3
      have hi2 := sc_inv hi1.2.2 h2
      have hF03 := hF02.tr (hF3.mono mh_mf)
      refine mm_B ok_Mo_read 52 3 (98, [some (.ref 52), some (.int (nI t)), some (.int w), some (.int x), some (.int y), none], [.int (g3 52 29)], (hp_SH ++ dy, g3, r3)) [] rfl trivial ?_
      rw [h329]
      refine mm_I ok_Mo_read 55 0 98 [some (.ref 52), some (.int (nI t)), some (.int w), some (.int x), some (.int y), none] [.int 0] (hp_SH ++ dy, g3, r3) [] rfl trivial rfl rfl (fun _ => ?_) (fun q => False.elim (absurd rfl q))
      refine mm_B ok_Mo_read 58 10 (119, [some (.ref 52), some (.int (nI t)), some (.int w), some (.int x), some (.int y), none], [.int 0, .int 0, .int 0, .int 0, .int 115, .int 110, .int 117, .int 114, .ref 52, .ref 52], (hp_SH ++ dy, g3, r3)) [] rfl trivial ?_
      refine mm_cV (as := [.int 114, .int 117, .int 110, .int 115, .int 0, .int 0, .int 0, .int 0]) (st := [.ref 52]) (q := 52) cw_Mo_isWord lk_Mo_190 in_Mo_isWord sl_Mo_isWord rfl rfl (mm_at ok_Mo_read (i := 68) rfl).1 (ct_Mo_isWord dy g3 r3 hx3 hml3 h329 (i := 11) (by decide)) (by decide) ⟨by omega, by omega⟩ (Nat.le_of_ble_eq_true rfl) (mm_vs_b (b := 77) rfl (hp_len dy)) (fun v h' hqq => ?_)
      obtain ⟨rfl, hqe⟩ := hqq; rw [hqe]
      cases h3 : sc_ B n F (-21) q2 with
      | none => rw [h3] at hs; cases hs
      | some x3 =>
      cases x3 with
      | inr e =>
        rw [h3] at hs
        cases hs
        refine mm_cV (as := [.int (if tk0 B n (ts_ B n q2) = kc_ 11 then 1 else 0)]) (st := []) (q := 52) cw_Mo_part lk_Mo_245 in_Mo_part sl_Mo_part rfl rfl (mm_at ok_Mo_read (i := 69) rfl).1 (ct_Mo_part dy g3 r3 (F := F) (key := -21) hi2.2.2 (by decide) hx3 ⟨hml3, h328, h329⟩ h3) (by decide) ⟨by omega, by omega⟩ (Nat.le_of_ble_eq_true rfl) (mm_vs_b (b := 77) rfl (hp_len dy)) (fun v h' hqq => ?_)
        obtain ⟨z, rfl, g4, r4, hqe, hr4, hF4, hb4, hf4⟩ := hqq; rw [hqe]
        refine mm_B ok_Mo_read 70 3 (131, [some (.ref 52), some (.int (nI t)), some (.int w), some (.int x), some (.int y), some (.int z)], [.int (g4 52 29)], (hp_SH ++ dy, g4, r4)) [] rfl trivial ?_
        rw [hb4]
        refine mm_I ok_Mo_read 73 0 131 [some (.ref 52), some (.int (nI t)), some (.int w), some (.int x), some (.int y), some (.int z)] [.int 1] (hp_SH ++ dy, g4, r4) [] rfl trivial rfl rfl (fun _ => ?_) (fun q => False.elim (absurd q (by decide)))
        exact rd_end ⟨_, rfl, g4, r4, rfl, ((hr4.trans hr3).trans hr2).trans hr1, hF03.tr (hF4.mono mh_mf), hb4, hf4⟩
      | inl y2 =>
        obtain ⟨q3, c2⟩ := y2
        rw [h3] at hs
        replace hs : (if tk_ B n q3 = -22 then some (Sum.inl (c0, c1, c2)) else some (Sum.inr (ts_ B n q3))) = some res := hs
        refine mm_cV (as := [.int (if tk0 B n (ts_ B n q2) = kc_ 11 then 1 else 0)]) (st := []) (q := 52) cw_Mo_part lk_Mo_245 in_Mo_part sl_Mo_part rfl rfl (mm_at ok_Mo_read (i := 69) rfl).1 (ct_Mo_part dy g3 r3 (F := F) (key := -21) hi2.2.2 (by decide) hx3 ⟨hml3, h328, h329⟩ h3) (by decide) ⟨by omega, by omega⟩ (Nat.le_of_ble_eq_true rfl) (mm_vs_b (b := 77) rfl (hp_len dy)) (fun v h' hqq => ?_)
        obtain ⟨z, rfl, hpz, g4, r4, hqe, hr4, hF4, hml4, h428, h429⟩ := hqq; rw [hqe]
        have hml4 : ml_ B n g4 r4 (ts_ B n q3) := hml4
        have hF04 := hF03.tr (hF4.mono mh_mf)
        have hr04 := ((hr4.trans hr3).trans hr2).trans hr1
        have hkd : mk0 B n (ts_ B n q3) = 0 ↔ tk_ B n q3 = -22 := mk_end B n (ts_ B n q3)
        refine mm_B ok_Mo_read 70 3 (131, [some (.ref 52), some (.int (nI t)), some (.int w), some (.int x), some (.int y), some (.int z)], [.int (g4 52 29)], (hp_SH ++ dy, g4, r4)) [] rfl trivial ?_
        rw [h429]
        refine mm_I ok_Mo_read 73 0 131 [some (.ref 52), some (.int (nI t)), some (.int w), some (.int x), some (.int y), some (.int z)] [.int 0] (hp_SH ++ dy, g4, r4) [] rfl trivial rfl rfl (fun q => False.elim (absurd rfl q)) (fun _ => ?_)
        refine mm_B ok_Mo_read 74 2 (138, [some (.ref 52), some (.int (nI t)), some (.int w), some (.int x), some (.int y), some (.int z)], [.int (g4 52 25)], (hp_SH ++ dy, g4, r4)) [] rfl trivial ?_
        rw [hml4.2.1]
        by_cases h8 : tk_ B n q3 = -22
        · rw [if_pos h8] at hs
          cases hs
          refine mm_I ok_Mo_read 76 0 138 [some (.ref 52), some (.int (nI t)), some (.int w), some (.int x), some (.int y), some (.int z)] [.int (mk0 B n (ts_ B n q3))] (hp_SH ++ dy, g4, r4) [] rfl trivial rfl rfl (fun _ => ?_) (fun q => False.elim (q (hkd.mpr h8)))
          exact rd_end ⟨x, y, z, rfl, hpx, hpy, hpz, g4, r4, rfl, hr04, hF04, h429⟩
        · rw [if_neg h8] at hs
          cases hs
          refine mm_I ok_Mo_read 76 0 138 [some (.ref 52), some (.int (nI t)), some (.int w), some (.int x), some (.int y), some (.int z)] [.int (mk0 B n (ts_ B n q3))] (hp_SH ++ dy, g4, r4) [] rfl trivial rfl rfl (fun q => False.elim (h8 (hkd.mp q))) (fun _ => ?_)
          refine mm_B ok_Mo_read 77 1 (142, [some (.ref 52), some (.int (nI t)), some (.int w), some (.int x), some (.int y), some (.int z)], [.ref 52], (hp_SH ++ dy, g4, r4)) [] rfl trivial ?_
          refine mm_cV (as := []) (st := []) (q := 52) cw_Mo_fail lk_Mo_184 in_Mo_fail sl_Mo_fail rfl rfl (mm_at ok_Mo_read (i := 78) rfl).1 (ct_Mo_fail0 dy g4 r4 h429) (by decide) ⟨by omega, by omega⟩ (Nat.le_of_ble_eq_true rfl) (mm_vs_b (b := 77) rfl (hp_len dy)) (fun v h' hqq => ?_)
          obtain ⟨rfl, hqe⟩ := hqq; rw [hqe]
          exact rd_end ⟨_, rfl, _, r4, rfl, hr04, (hF04.up _ rfl).up _ rfl, rfl, hml4.2.2.1⟩
/-- the model's text in force, and its signs -/
def rt_M (P : Nat → Nat → Int32) (C : Nat → List Int32) : Prop := ∃ (ru n F : Nat) (B : Nat → Int32), P 52 4 = nI ru ∧ ru < 6 ∧ P 54 ru = nI n ∧ n ≤ 160 ∧ (∀ i, i < n → P 53 (160 * ru + i) = B i ∧ 0 ≤ B i) ∧ tx_ B n F = some (.inl (C 0, C 1, C 2))
def mj_ (k j : Nat) : Bool := k == 52 && (Nat.ble 16 j && Nat.ble j 30)
theorem mj_mh : ∀ k j, mj_ k j = false → mh_ k j = false := by
  intro k j h
  unfold mj_ at h
  unfold mh_ mf_
  cases h0 : k == 52 with
  | false => rfl
  | true =>
    rw [h0] at h
    have h2 : (Nat.ble 16 j && Nat.ble j 30) = false := h
    cases hj : (j == 24 || j == 25 || j == 26 || j == 28 || j == 29 || j == 30 || j == 22 || j == 23) with
    | true =>
      exfalso
      simp at hj
      rcases hj with ((((((rfl | rfl) | rfl) | rfl) | rfl) | rfl) | rfl) | rfl <;> cases h2
    | false =>
      simp at hj ⊢
      omega
theorem mj_nr : ∀ k j, nr_s k j = false → mj_ k j = false := by
  intro k j h
  unfold mj_
  cases h13 : k == 52 with
  | true =>
    rw [show k = 52 by simpa using h13] at h
    have h2 : ((Nat.ble 16 j && Nat.ble j 30) || j == 39 || j == 0) = false := h
    exact (Bool.or_eq_false_iff.mp (Bool.or_eq_false_iff.mp h2).1).1
  | false => rfl
theorem ct_Mo_says (dy : List mm_Sh) (g P : Nat → Nat → Int32) (r : (Nat → Nat → Int64) × Nat × (Nat → Int32)) (hP : nr_ g = P) {C : Nat → List Int32} (hR : rt_M P C) {ag : Nat → Nat} {w c : Nat} (b l k o : Int32) (hw : w < 3) (hc : c < 6) (hag : P 61 c = nI (ag c)) : mm_Ct 56 M_Mo_says [.ref 52, .int (nI w), .int b, .int (nI c), .int l, .int k, .int o] (hp_SH ++ dy, g, r) 0 0 (fun v h' => v = some (.int (ev_ (C w) b (nI c) l k (nI (ag c)) o)) ∧ ∃ g' r', h' = (hp_SH ++ dy, g', r') ∧ r'.2 = r.2 ∧ fr_ mj_ g g') := by
  obtain ⟨ru, n, F, B, h4, hru, h54, hn, hB, htx⟩ := hR
  have eag : g 61 c = nI (ag c) := by rw [nr_at hP 61 c rfl]; exact hag
  have e4 : g 52 4 = nI ru := by rw [nr_at hP 52 4 rfl]; exact h4
  refine mm_start pl_Mo (Nat.le_of_ble_eq_true rfl) ?_
  refine mm_B ok_Mo_says 0 25 (44, [some (.ref 52), some (.int (nI w)), some (.int b), some (.int (nI c)), some (.int l), some (.int k), some (.int o)], [.int (nI w), .int (g 52 4), .ref 52], (hp_SH ++ dy, mm_up (mm_up (mm_up (mm_up (mm_up (mm_up g 52 16 b) 52 17 (nI c)) 52 18 l) 52 19 k) 52 20 (g 61 ((nI c).toNatClampNeg))) 52 21 o, r)) [vp_in (nI c) 6] rfl (show vp_in (nI c) 6 from (nI_vi hc (by decide))) ?_
  rw [nI_clamp (show c < 2 ^ 31 by omega), eag, e4]
  obtain ⟨g0, hg0⟩ : ∃ x, x = mm_up (mm_up (mm_up (mm_up (mm_up (mm_up g 52 16 b) 52 17 (nI c)) 52 18 l) 52 19 k) 52 20 (nI (ag c))) 52 21 o := ⟨_, rfl⟩
  rw [← hg0]
  have hF0 : fr_ mj_ g g0 := by rw [hg0]; exact (((((fr_.rf.up _ rfl).up _ rfl).up _ rfl).up _ rfl).up _ rfl).up _ rfl
  refine mm_cV (as := [.int (nI ru), .int (nI w)]) (st := []) (q := 52) cw_Mo_read lk_Mo_249 in_Mo_read sl_Mo_read rfl rfl (mm_at ok_Mo_says (i := 25) rfl).1 (ct_Mo_read dy g0 r (sc := sc_6 b (nI c) l k (nI (ag c)) o) (nI w) hru hn (by rw [hF0 54 ru rfl, nr_at hP 54 ru rfl]; exact h54) (fun i hi => by rw [hF0 53 _ rfl, nr_at hP 53 _ rfl]; exact hB i hi) (by rw [hg0]; exact ⟨rfl, rfl, rfl, rfl, rfl, rfl⟩) htx) (by decide) ⟨by omega, by omega⟩ (Nat.le_of_ble_eq_true rfl) (mm_vs_b (b := 77) rfl (hp_len dy)) (fun v h' hqq => ?_)
  obtain ⟨x, y, z, rfl, hpx, hpy, hpz, g1, r1, hqe, hr1, hF1, -⟩ := hqq; rw [hqe]
  have hev : wh_ (nI w) x y z = ev_ (C w) b (nI c) l k (nI (ag c)) o := by
    unfold ev_
    match w, hw with
    | 0, _ => exact (pv_v hpx _).symm
    | 1, _ => exact (pv_v hpy _).symm
    | 2, _ => exact (pv_v hpz _).symm
    | w + 3, hw => omega
  exact mm_ri rfl (mm_at ok_Mo_says (i := 26) rfl).1 ⟨Nat.le_refl _, Nat.le_refl _⟩ (⟨by rw [hev], g1, r1, rfl, hr1, hF0.tr (hF1.mono mj_mh)⟩)

