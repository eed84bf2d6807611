/-! ===== the model's grammar ===== -/
theorem wk_app (sc : Nat → Int32) : ∀ (c d : List Int32) (q : Nat × (Nat → Int32)), wk_r sc (c ++ d) q = wk_r sc d (wk_r sc c q)
  | [], d, q => rfl
  | s :: c, d, q => wk_app sc c d (wk_s sc s q)
/-- a row of signs puts x on the stack -/
def pv_ (sc : Nat → Int32) (c : List Int32) (x : Int32) : Prop := ∀ (k : Nat) (f : Nat → Int32), (wk_r sc c (k, f)).1 = k + 1 ∧ (wk_r sc c (k, f)).2 k = x ∧ ∀ i, i < k → (wk_r sc c (k, f)).2 i = f i
theorem pv_v {sc : Nat → Int32} {c : List Int32} {x : Int32} (h : pv_ sc c x) (f : Nat → Int32) : wk_v (wk_r sc c (0, f)) = x := by
  obtain ⟨h1, h2, -⟩ := h 0 f
  unfold wk_v
  rw [h1, if_pos (by omega)]
  exact h2
theorem pv_lit (sc : Nat → Int32) {t : Int32} (h : -6 ≤ t) : pv_ sc [t] (if t < 0 then sc (-1 - t).toNatClampNeg else t) := by
  intro k f
  have e : wk_r sc [t] (k, f) = (k + 1, upd f k (if t < 0 then sc (-1 - t).toNatClampNeg else t)) := by
    show wk_s sc t (k, f) = _
    unfold wk_s
    rw [if_neg (Int32.not_lt.mpr h)]
  rw [e]
  refine ⟨rfl, by simp [upd], fun i hi => by simp [upd, show i ≠ k by omega]⟩
theorem pv_un {sc : Nat → Int32} {c : List Int32} {x : Int32} (h : pv_ sc c x) : pv_ sc (c ++ [-9]) (if x = 0 then 1 else 0) ∧ pv_ sc (c ++ [-15]) (-x) := by
  refine ⟨fun k f => ?_, fun k f => ?_⟩
  · obtain ⟨h1, h2, h3⟩ := h k f
    rw [wk_app]
    have e : wk_r sc [-9] (wk_r sc c (k, f)) = (k + 1, upd (wk_r sc c (k, f)).2 k (if x = 0 then 1 else 0)) := by
      show wk_s sc (-9) (wk_r sc c (k, f)) = _
      unfold wk_s
      rw [if_pos (by decide), if_pos ⟨rfl, by omega⟩, h1, show k + 1 - 1 = k by omega, h2]
    rw [e]
    refine ⟨rfl, by simp [upd], fun i hi => ?_⟩
    rw [← h3 i hi]
    simp [upd, show i ≠ k by omega]
  · obtain ⟨h1, h2, h3⟩ := h k f
    rw [wk_app]
    have e : wk_r sc [-15] (wk_r sc c (k, f)) = (k + 1, upd (wk_r sc c (k, f)).2 k (-x)) := by
      show wk_s sc (-15) (wk_r sc c (k, f)) = _
      unfold wk_s
      rw [if_pos (by decide), if_neg (fun h => absurd h.1 (by decide)), if_pos ⟨rfl, by omega⟩, h1, show k + 1 - 1 = k by omega, h2]
    rw [e]
    refine ⟨rfl, by simp [upd], fun i hi => ?_⟩
    rw [← h3 i hi]
    simp [upd, show i ≠ k by omega]
theorem pv_bin {sc : Nat → Int32} {c d : List Int32} {x y s : Int32} (hc : pv_ sc c x) (hd : pv_ sc d y) (h6 : s < -6) (h9 : ¬ s = -9) (h15 : ¬ s = -15) : pv_ sc (c ++ d ++ [s]) (jn_ s x y) := by
  intro k f
  obtain ⟨h1, h2, h3⟩ := hc k f
  obtain ⟨d1, d2, d3⟩ := hd (k + 1) (wk_r sc c (k, f)).2
  have e0 : wk_r sc c (k, f) = (k + 1, (wk_r sc c (k, f)).2) := Prod.ext h1 rfl
  rw [wk_app, wk_app, e0]
  generalize wk_r sc d (k + 1, (wk_r sc c (k, f)).2) = q at d1 d2 d3 ⊢
  have e : wk_r sc [s] q = (k + 1, upd q.2 k (jn_ s x y)) := by
    show wk_s sc s q = _
    unfold wk_s
    rw [if_pos h6, if_neg (fun h => h9 h.1), if_neg (fun h => h15 h.1), if_pos (by omega), d1, show k + 1 + 1 - 1 = k + 1 by omega, show k + 1 + 1 - 2 = k by omega, d2, d3 k (by omega), h2]
  rw [e]
  refine ⟨rfl, by simp [upd], fun i hi => ?_⟩
  rw [← h3 i hi, ← d3 i (by omega)]
  simp [upd, show i ≠ k by omega]
theorem sg_1 : sg_ 45 = -13 ∧ sg_ 40 = -16 ∧ sg_ 41 = -17 ∧ sg_ 42 = -14 ∧ sg_ 43 = -12 ∧ sg_ 60 = -10 ∧ sg_ 61 = -11 ∧ sg_ 59 = -18 := by decide
def mq_ (dy : List mm_Sh) (rs : Nat × (Nat → Int32)) (B : Nat → Int32) (n : Nat) (sc : Nat → Int32) (o : Nat) (g : Nat → Nat → Int32) (cd : List Int32) : (Nat × List Int32) ⊕ Nat → Option Value → mm_Hp → Prop
  | .inl y => fun v h' => ∃ x, v = some (.int x) ∧ pv_ sc (cd ++ y.2) x ∧ ∃ g' r', h' = (hp_SH ++ dy, g', r') ∧ r'.2 = rs ∧ fr_ mf_ g g' ∧ ms_ B n g' r' (ts_ B n y.1) o
  | .inr e => fun v h' => ∃ x, v = some (.int x) ∧ ∃ g' r', h' = (hp_SH ++ dy, g', r') ∧ r'.2 = rs ∧ fr_ mf_ g g' ∧ g' 52 29 = 1 ∧ g' 52 30 = nI e
theorem mq_tr {dy : List mm_Sh} {rs : Nat × (Nat → Int32)} {B : Nat → Int32} {n o : Nat} {sc : Nat → Int32} {g g' : Nat → Nat → Int32} {cd c1 c2 : List Int32} {q : Nat} {v : Option Value} {h' : mm_Hp} (hF : fr_ mf_ g g') (h : mq_ dy rs B n sc o g' (cd ++ c1) (.inl (q, c2)) v h') : mq_ dy rs B n sc o g cd (.inl (q, c1 ++ c2)) v h' := by
  obtain ⟨x, h1, h0, g2, r2, h2, h5, h3, h4⟩ := h
  exact ⟨x, h1, by rw [← List.append_assoc]; exact h0, g2, r2, h2, h5, hF.tr h3, h4⟩
theorem mq_te {dy : List mm_Sh} {rs : Nat × (Nat → Int32)} {B : Nat → Int32} {n o o' : Nat} {sc : Nat → Int32} {g g' : Nat → Nat → Int32} {cd cd' : List Int32} {e : Nat} {v : Option Value} {h' : mm_Hp} (hF : fr_ mf_ g g') (h : mq_ dy rs B n sc o' g' cd' (.inr e) v h') : mq_ dy rs B n sc o g cd (.inr e) v h' := by
  obtain ⟨x, h1, g2, r2, h2, h5, h3, h4⟩ := h
  exact ⟨x, h1, g2, r2, h2, h5, hF.tr h3, h4⟩
def mr_M : Nat → mm_M
  | 0 => M_Mo_either
  | 1 => M_Mo_both
  | 2 => M_Mo_not
  | 4 => M_Mo_added
  | 5 => M_Mo_term
  | _ => M_Mo_atom
def mr_P (dy : List mm_Sh) (rs : Nat × (Nat → Int32)) (B : Nat → Int32) (n t : Nat) (sc : Nat → Int32) (f : Nat) : Prop :=
  ∀ (lev o q : Nat) (res : (Nat × List Int32) ⊕ Nat) (g : Nat → Nat → Int32) (r : (Nat → Nat → Int64) × Nat × (Nat → Int32)), lev ≤ 6 → lev ≠ 3 → o ≤ 5 → q ≤ n → ps_ B n f lev o q = some res → r.2 = rs → mx_ g t n B sc → ms_ B n g r (ts_ B n q) o → mm_Ct (dp_ lev o) (mr_M lev) [.ref 52] (hp_SH ++ dy, g, r) 0 0 (mq_ dy rs B n sc o g [] res)
theorem tk_lit {B : Nat → Int32} {n s : Nat} {sc : Nat → Int32} (h : -6 ≤ tk0 B n s) : (mk0 B n s = 2 ∧ pv_ sc [tk0 B n s] (tk0 B n s)) ∨ (mk0 B n s = 1 ∧ ∃ i, i < 6 ∧ tk0 B n s = kc_ i ∧ pv_ sc [tk0 B n s] (sc i)) := by
  have hp := pv_lit sc h
  rcases mk_cases B n s with ⟨h1, h2, -⟩ | ⟨h1, h2⟩ | ⟨h1, -, m, h2, h3⟩ | ⟨h1, -, -, -, h2, -⟩ | ⟨h1, -, h2, h3⟩
  · rw [h2] at h; exact absurd h (by decide)
  · rw [h2] at h; exact absurd h (by decide)
  · refine Or.inl ⟨h1, ?_⟩
    rw [if_neg (by rw [h2]; exact nI_pos (by omega))] at hp
    exact hp
  · refine Or.inr ⟨h1, ?_⟩
    have hk : ∃ i, i < 6 ∧ tk0 B n s = kc_ i := by
      rcases wc_key (B := B) (s := s) (e := sk_ (lt_ B) n s) with w | w | w | w | w | w | w | w | w | w | w | w | w
      · exact ⟨0, by decide, h2.trans w⟩
      · exact ⟨1, by decide, h2.trans w⟩
      · exact ⟨2, by decide, h2.trans w⟩
      · exact ⟨3, by decide, h2.trans w⟩
      · exact ⟨4, by decide, h2.trans w⟩
      · exact ⟨5, by decide, h2.trans w⟩
      all_goals (rw [h2, w] at h; exact absurd h (by decide))
    obtain ⟨i, hi, hk⟩ := hk
    refine ⟨i, hi, hk, ?_⟩
    have hc : ∀ i, i < 6 → kc_ i < 0 ∧ (-1 - kc_ i).toNatClampNeg = i := by decide
    rw [hk] at hp
    rw [if_pos (hc i hi).1, (hc i hi).2] at hp
    rw [hk]
    exact hp
  · exfalso
    rw [h3] at h
    rcases sg_key (x := B s) with e | e | e | e | e | e | e | e | e <;> rw [e] at h <;> revert h <;> decide
theorem ts_tk (B : Nat → Int32) (n q : Nat) : tk_ B n q = tk0 B n (ts_ B n q) := rfl

theorem mr_be_either (dy : List mm_Sh) (g : Nat → Nat → Int32) (r : (Nat → Nat → Int64) × Nat × (Nat → Int32)) {o : Nat} (hb : g 52 29 = 1) {v0 : Int32} {Q : Option Value → mm_Hp → Prop} (hQ : Q (some (.int v0)) (hp_SH ++ dy, g, r)) : mm_W (dp_ 0 o) M_Mo_either 0 0 Q 0 0 (5, [some (.ref 52), some (.int v0), none], [], (hp_SH ++ dy, g, r)) := by
  refine mm_B ok_Mo_either 3 9 (16, [some (.ref 52), some (.int v0), none], [.int 0, .int 0, .int 0, .int 0, .int 0, .int 0, .int 114, .int 111, .ref 52], (hp_SH ++ dy, g, r)) [] rfl trivial ?_
  refine mm_cV (as := [.int 111, .int 114, .int 0, .int 0, .int 0, .int 0, .int 0, .int 0]) (st := []) (q := 52) cw_Mo_isWord lk_Mo_190 in_Mo_isWord sl_Mo_isWord rfl rfl (mm_at ok_Mo_either (i := 12) rfl).1 (ct_Mo_isWord1 dy g r hb 111 114 0 0 0 0 0 0) (by unfold dp_; omega) ⟨by omega, by omega⟩ (Nat.le_of_ble_eq_true rfl) (mm_vs_b (b := 77) rfl (hp_len dy)) (fun v h' hqq => ?_)
  obtain ⟨rfl, hqe⟩ := hqq; rw [hqe]
  refine mm_I ok_Mo_either 13 0 19 [some (.ref 52), some (.int v0), none] [.int 0] (hp_SH ++ dy, g, r) [] rfl trivial rfl rfl (fun _ => ?_) (fun q => False.elim (q rfl))
  refine mm_B ok_Mo_either 28 1 (49, [some (.ref 52), some (.int v0), none], [.int v0], (hp_SH ++ dy, g, r)) [] rfl trivial ?_
  exact mm_ri rfl (mm_at ok_Mo_either (i := 29) rfl).1 ⟨Nat.le_refl _, Nat.le_refl _⟩ (hQ)
theorem mr_be_both (dy : List mm_Sh) (g : Nat → Nat → Int32) (r : (Nat → Nat → Int64) × Nat × (Nat → Int32)) {o : Nat} (hb : g 52 29 = 1) {v0 : Int32} {Q : Option Value → mm_Hp → Prop} (hQ : Q (some (.int v0)) (hp_SH ++ dy, g, r)) : mm_W (dp_ 1 o) M_Mo_both 0 0 Q 0 0 (5, [some (.ref 52), some (.int v0), none], [], (hp_SH ++ dy, g, r)) := by
  refine mm_B ok_Mo_both 3 9 (17, [some (.ref 52), some (.int v0), none], [.int 0, .int 0, .int 0, .int 0, .int 0, .int 100, .int 110, .int 97, .ref 52], (hp_SH ++ dy, g, r)) [] rfl trivial ?_
  refine mm_cV (as := [.int 97, .int 110, .int 100, .int 0, .int 0, .int 0, .int 0, .int 0]) (st := []) (q := 52) cw_Mo_isWord lk_Mo_190 in_Mo_isWord sl_Mo_isWord rfl rfl (mm_at ok_Mo_both (i := 12) rfl).1 (ct_Mo_isWord1 dy g r hb 97 110 100 0 0 0 0 0) (by unfold dp_; omega) ⟨by omega, by omega⟩ (Nat.le_of_ble_eq_true rfl) (mm_vs_b (b := 77) rfl (hp_len dy)) (fun v h' hqq => ?_)
  obtain ⟨rfl, hqe⟩ := hqq; rw [hqe]
  refine mm_I ok_Mo_both 13 0 20 [some (.ref 52), some (.int v0), none] [.int 0] (hp_SH ++ dy, g, r) [] rfl trivial rfl rfl (fun _ => ?_) (fun q => False.elim (q rfl))
  refine mm_B ok_Mo_both 28 1 (50, [some (.ref 52), some (.int v0), none], [.int v0], (hp_SH ++ dy, g, r)) [] rfl trivial ?_
  exact mm_ri rfl (mm_at ok_Mo_both (i := 29) rfl).1 ⟨Nat.le_refl _, Nat.le_refl _⟩ (hQ)
theorem mr_be_term (dy : List mm_Sh) (g : Nat → Nat → Int32) (r : (Nat → Nat → Int64) × Nat × (Nat → Int32)) {o : Nat} (hb : g 52 29 = 1) {v0 : Int32} {Q : Option Value → mm_Hp → Prop} (hQ : Q (some (.int v0)) (hp_SH ++ dy, g, r)) : mm_W (dp_ 5 o) M_Mo_term 0 0 Q 0 0 (5, [some (.ref 52), some (.int v0)], [], (hp_SH ++ dy, g, r)) := by
  refine mm_B ok_Mo_term 3 2 (8, [some (.ref 52), some (.int v0)], [.int 42, .ref 52], (hp_SH ++ dy, g, r)) [] rfl trivial ?_
  refine mm_cV (as := [.int 42]) (st := []) (q := 52) cw_Mo_isSign lk_Mo_212 in_Mo_isSign sl_Mo_isSign rfl rfl (mm_at ok_Mo_term (i := 5) rfl).1 (ct_Mo_isSign1 dy g r hb 42) (by unfold dp_; omega) ⟨by omega, by omega⟩ (Nat.le_of_ble_eq_true rfl) (mm_vs_b (b := 77) rfl (hp_len dy)) (fun v h' hqq => ?_)
  obtain ⟨rfl, hqe⟩ := hqq; rw [hqe]
  refine mm_I ok_Mo_term 6 0 11 [some (.ref 52), some (.int v0)] [.int 0] (hp_SH ++ dy, g, r) [] rfl trivial rfl rfl (fun _ => ?_) (fun q => False.elim (q rfl))
  refine mm_B ok_Mo_term 15 1 (29, [some (.ref 52), some (.int v0)], [.int v0], (hp_SH ++ dy, g, r)) [] rfl trivial ?_
  exact mm_ri rfl (mm_at ok_Mo_term (i := 16) rfl).1 ⟨Nat.le_refl _, Nat.le_refl _⟩ (hQ)
theorem mr_be_added (dy : List mm_Sh) (g : Nat → Nat → Int32) (r : (Nat → Nat → Int64) × Nat × (Nat → Int32)) {o : Nat} (hb : g 52 29 = 1) {v0 : Int32} {Q : Option Value → mm_Hp → Prop} (hQ : Q (some (.int v0)) (hp_SH ++ dy, g, r)) : mm_W (dp_ 4 o) M_Mo_added 0 0 Q 0 0 (5, [some (.ref 52), some (.int v0), none, none], [], (hp_SH ++ dy, g, r)) := by
  refine mm_B ok_Mo_added 3 2 (8, [some (.ref 52), some (.int v0), none, none], [.int 43, .ref 52], (hp_SH ++ dy, g, r)) [] rfl trivial ?_
  refine mm_cV (as := [.int 43]) (st := []) (q := 52) cw_Mo_isSign lk_Mo_212 in_Mo_isSign sl_Mo_isSign rfl rfl (mm_at ok_Mo_added (i := 5) rfl).1 (ct_Mo_isSign1 dy g r hb 43) (by unfold dp_; omega) ⟨by omega, by omega⟩ (Nat.le_of_ble_eq_true rfl) (mm_vs_b (b := 77) rfl (hp_len dy)) (fun v h' hqq => ?_)
  obtain ⟨rfl, hqe⟩ := hqq; rw [hqe]
  refine mm_I ok_Mo_added 6 0 11 [some (.ref 52), some (.int v0), none, none] [.int 0] (hp_SH ++ dy, g, r) [] rfl trivial rfl rfl (fun q => False.elim (q rfl)) (fun _ => ?_)
  refine mm_B ok_Mo_added 7 2 (17, [some (.ref 52), some (.int v0), none, none], [.int 45, .ref 52], (hp_SH ++ dy, g, r)) [] rfl trivial ?_
  refine mm_cV (as := [.int 45]) (st := []) (q := 52) cw_Mo_isSign lk_Mo_212 in_Mo_isSign sl_Mo_isSign rfl rfl (mm_at ok_Mo_added (i := 9) rfl).1 (ct_Mo_isSign1 dy g r hb 45) (by unfold dp_; omega) ⟨by omega, by omega⟩ (Nat.le_of_ble_eq_true rfl) (mm_vs_b (b := 77) rfl (hp_len dy)) (fun v h' hqq => ?_)
  obtain ⟨rfl, hqe⟩ := hqq; rw [hqe]
  refine mm_I ok_Mo_added 10 0 20 [some (.ref 52), some (.int v0), none, none] [.int 0] (hp_SH ++ dy, g, r) [] rfl trivial rfl rfl (fun _ => ?_) (fun q => False.elim (q rfl))
  refine mm_B ok_Mo_added 36 1 (67, [some (.ref 52), some (.int v0), none, none], [.int v0], (hp_SH ++ dy, g, r)) [] rfl trivial ?_
  exact mm_ri rfl (mm_at ok_Mo_added (i := 37) rfl).1 ⟨Nat.le_refl _, Nat.le_refl _⟩ (hQ)
theorem mr_cb_either {d : Nat} {mc ms nc ns : Nat} {Q : Option Value → mm_Hp → Prop} {h : mm_Hp} {v0 x : Int32} (kk : mm_W d M_Mo_either mc ms Q nc ns (5, [some (.ref 52), some (.int (jn_ (-7) v0 x)), none], [], h)) : mm_W d M_Mo_either mc ms Q nc ns (30, [some (.ref 52), some (.int v0), none], [.int x], h) := by
  refine mm_I ok_Mo_either 18 2 32 [some (.ref 52), some (.int v0), some (.int x)] [.int v0] h [] rfl trivial rfl rfl (fun c1 => ?_) (fun c1 => ?_)
  · refine mm_B ok_Mo_either 23 2 (44, [some (.ref 52), some (.int v0), some (.int x)], [.int 1], h) [] rfl trivial ?_
    refine mm_B ok_Mo_either 26 2 (5, [some (.ref 52), some (.int 1), some (.int x)], [], h) [] rfl trivial ?_
    refine mm_fg [2] ?_
    rw [show jn_ (-7) v0 x = 1 by unfold jn_; rw [if_pos rfl, if_neg (fun q => c1 q.1)]] at kk
    exact kk
  · refine mm_I ok_Mo_either 21 1 36 [some (.ref 52), some (.int v0), some (.int x)] [.int x] h [] rfl trivial rfl rfl (fun c2 => ?_) (fun c2 => ?_)
    · refine mm_B ok_Mo_either 25 3 (5, [some (.ref 52), some (.int 0), some (.int x)], [], h) [] rfl trivial ?_
      refine mm_fg [2] ?_
      rw [show jn_ (-7) v0 x = 0 by unfold jn_; rw [if_pos rfl, if_pos ⟨c1, c2⟩]] at kk
      exact kk
    · refine mm_B ok_Mo_either 23 2 (44, [some (.ref 52), some (.int v0), some (.int x)], [.int 1], h) [] rfl trivial ?_
      refine mm_B ok_Mo_either 26 2 (5, [some (.ref 52), some (.int 1), some (.int x)], [], h) [] rfl trivial ?_
      refine mm_fg [2] ?_
      rw [show jn_ (-7) v0 x = 1 by unfold jn_; rw [if_pos rfl, if_neg (fun q => c2 q.2)]] at kk
      exact kk
theorem mr_cb_both {d : Nat} {mc ms nc ns : Nat} {Q : Option Value → mm_Hp → Prop} {h : mm_Hp} {v0 x : Int32} (kk : mm_W d M_Mo_both mc ms Q nc ns (5, [some (.ref 52), some (.int (jn_ (-8) v0 x)), none], [], h)) : mm_W d M_Mo_both mc ms Q nc ns (31, [some (.ref 52), some (.int v0), none], [.int x], h) := by
  have e0 : ∀ a b : Int32, jn_ (-8) a b = if a = 0 ∨ b = 0 then 0 else 1 := fun a b => by unfold jn_; rw [if_neg (by decide), if_pos rfl]
  rw [e0] at kk
  refine mm_I ok_Mo_both 18 2 33 [some (.ref 52), some (.int v0), some (.int x)] [.int v0] h [] rfl trivial rfl rfl (fun c1 => ?_) (fun c1 => ?_)
  · refine mm_B ok_Mo_both 25 3 (5, [some (.ref 52), some (.int 0), some (.int x)], [], h) [] rfl trivial ?_
    refine mm_fg [2] ?_
    rw [if_pos (Or.inl c1)] at kk
    exact kk
  · refine mm_I ok_Mo_both 21 1 37 [some (.ref 52), some (.int v0), some (.int x)] [.int x] h [] rfl trivial rfl rfl (fun c2 => ?_) (fun c2 => ?_)
    · refine mm_B ok_Mo_both 25 3 (5, [some (.ref 52), some (.int 0), some (.int x)], [], h) [] rfl trivial ?_
      refine mm_fg [2] ?_
      rw [if_pos (Or.inr c2)] at kk
      exact kk
    · refine mm_B ok_Mo_both 23 2 (45, [some (.ref 52), some (.int v0), some (.int x)], [.int 1], h) [] rfl trivial ?_
      refine mm_B ok_Mo_both 26 2 (5, [some (.ref 52), some (.int 1), some (.int x)], [], h) [] rfl trivial ?_
      refine mm_fg [2] ?_
      rw [if_neg (fun q => q.elim c1 c2)] at kk
      exact kk
theorem mr_cb_term {d : Nat} {mc ms nc ns : Nat} {Q : Option Value → mm_Hp → Prop} {h : mm_Hp} {v0 x : Int32} (kk : mm_W d M_Mo_term mc ms Q nc ns (5, [some (.ref 52), some (.int (jn_ (-14) v0 x))], [], h)) : mm_W d M_Mo_term mc ms Q nc ns (23, [some (.ref 52), some (.int v0)], [.int x, .int v0], h) := by
  have e0 : ∀ a b : Int32, jn_ (-14) a b = a * b := fun a b => by unfold jn_; rw [if_neg (by decide), if_neg (by decide), if_neg (by decide), if_neg (by decide), if_neg (by decide), if_neg (by decide)]
  rw [e0] at kk
  refine mm_B ok_Mo_term 12 3 (5, [some (.ref 52), some (.int (v0 * x))], [], h) [] rfl trivial ?_
  exact kk
theorem mr_cb_added1 {d : Nat} {mc ms nc ns : Nat} {Q : Option Value → mm_Hp → Prop} {h : mm_Hp} {v0 x : Int32} (kk : mm_W d M_Mo_added mc ms Q nc ns (5, [some (.ref 52), some (.int (jn_ (-12) v0 x)), none, none], [], h)) : mm_W d M_Mo_added mc ms Q nc ns (48, [some (.ref 52), some (.int v0), some (.int 1), none], [.int x], h) := by
  have e0 : ∀ a b : Int32, jn_ (-12) a b = a + b := fun a b => by unfold jn_; rw [if_neg (by decide), if_neg (by decide), if_neg (by decide), if_neg (by decide), if_pos rfl]
  rw [e0] at kk
  refine mm_I ok_Mo_added 24 2 50 [some (.ref 52), some (.int v0), some (.int 1), some (.int x)] [.int 1] h [] rfl trivial rfl rfl (fun q => False.elim (absurd q (by decide))) (fun _ => ?_)
  refine mm_B ok_Mo_added 27 4 (62, [some (.ref 52), some (.int v0), some (.int 1), some (.int x)], [.int (v0 + x)], h) [] rfl trivial ?_
  refine mm_B ok_Mo_added 34 2 (5, [some (.ref 52), some (.int (v0 + x)), some (.int 1), some (.int x)], [], h) [] rfl trivial ?_
  refine mm_fg [2, 3] ?_
  exact kk
theorem mr_cb_added0 {d : Nat} {mc ms nc ns : Nat} {Q : Option Value → mm_Hp → Prop} {h : mm_Hp} {v0 x : Int32} (kk : mm_W d M_Mo_added mc ms Q nc ns (5, [some (.ref 52), some (.int (jn_ (-13) v0 x)), none, none], [], h)) : mm_W d M_Mo_added mc ms Q nc ns (48, [some (.ref 52), some (.int v0), some (.int 0), none], [.int x], h) := by
  have e0 : ∀ a b : Int32, jn_ (-13) a b = a - b := fun a b => by unfold jn_; rw [if_neg (by decide), if_neg (by decide), if_neg (by decide), if_neg (by decide), if_neg (by decide), if_pos rfl]
  rw [e0] at kk
  refine mm_I ok_Mo_added 24 2 50 [some (.ref 52), some (.int v0), some (.int 0), some (.int x)] [.int 0] h [] rfl trivial rfl rfl (fun _ => ?_) (fun q => False.elim (q rfl))
  refine mm_B ok_Mo_added 31 5 (5, [some (.ref 52), some (.int (v0 - x)), some (.int 0), some (.int x)], [], h) [] rfl trivial ?_
  refine mm_fg [2, 3] ?_
  exact kk
theorem mr_lp_either (dy : List mm_Sh) (rs : Nat × (Nat → Int32)) {B : Nat → Int32} {n t : Nat} {sc : Nat → Int32} {F : Nat} (IH : ∀ f, f < F → mr_P dy rs B n t sc f) : ∀ (f : Nat), f ≤ F → ∀ (o q1 : Nat) (res2 : (Nat × List Int32) ⊕ Nat) (g1 : Nat → Nat → Int32) (r1 : (Nat → Nat → Int64) × Nat × (Nat → Int32)) (v0 : Int32) (cacc : List Int32) (Q : Option Value → mm_Hp → Prop), o ≤ 5 → q1 ≤ n → ps_ B n f (0 + 10) o q1 = some res2 → r1.2 = rs → mx_ g1 t n B sc → ms_ B n g1 r1 (ts_ B n q1) o → pv_ sc cacc v0 → (∀ v h', mq_ dy rs B n sc o g1 cacc res2 v h' → Q v h') → mm_W (dp_ 0 o) M_Mo_either 0 0 Q 0 0 (5, [some (.ref 52), some (.int v0), none], [], (hp_SH ++ dy, g1, r1)) := by
  intro f
  induction f with
  | zero => intro _ o q1 res2 g1 r1 v0 cacc Q _ _ h; cases h
  | succ f ih =>
    intro hfF o q1 res2 g1 r1 v0 cacc Q ho hq1 hps hr hx1 hms hv hQ
    obtain ⟨hml, h28, h29⟩ := hms
    have hnx := nx_ub B hq1
    rcases ps_l hps with ⟨h1, h2⟩ | ⟨h1, rfl⟩
    · skip
      have h1e : tk_ B n q1 = -7 := h1
      have h23 : ¬ tk_ B n q1 = -23 := by rw [h1e]; decide
      rw [h1e] at h2
      refine mm_B ok_Mo_either 3 9 (16, [some (.ref 52), some (.int v0), none], [.int 0, .int 0, .int 0, .int 0, .int 0, .int 0, .int 114, .int 111, .ref 52], (hp_SH ++ dy, g1, r1)) [] rfl trivial ?_
      refine mm_cV (as := [.int 111, .int 114, .int 0, .int 0, .int 0, .int 0, .int 0, .int 0]) (st := []) (q := 52) cw_Mo_isWord lk_Mo_190 in_Mo_isWord sl_Mo_isWord rfl rfl (mm_at ok_Mo_either (i := 12) rfl).1 (ct_Mo_isWord dy g1 r1 hx1 hml h29 (i := 6) (by decide)) (by unfold dp_; omega) ⟨by omega, by omega⟩ (Nat.le_of_ble_eq_true rfl) (mm_vs_b (b := 77) rfl (hp_len dy)) (fun v h' hqq => ?_)
      obtain ⟨rfl, hqe⟩ := hqq; rw [hqe]
      rw [if_pos (show tk0 B n (ts_ B n q1) = kc_ 6 from h1e)]
      refine mm_I ok_Mo_either 13 0 19 [some (.ref 52), some (.int v0), none] [.int 1] (hp_SH ++ dy, g1, r1) [] rfl trivial rfl rfl (fun q => False.elim (absurd q (by decide))) (fun _ => ?_)
      refine mm_B ok_Mo_either 14 1 (23, [some (.ref 52), some (.int v0), none], [.ref 52], (hp_SH ++ dy, g1, r1)) [] rfl trivial ?_
      refine mm_cV (as := []) (st := []) (q := 52) cw_Mo_next lk_Mo_187 in_Mo_next sl_Mo_next rfl rfl (mm_at ok_Mo_either (i := 15) rfl).1 (ct_Mo_next dy g1 r1 hx1 hnx (ms_nx hml h23)) (by unfold dp_; omega) ⟨by omega, by omega⟩ (Nat.le_of_ble_eq_true rfl) (mm_vs_b (b := 77) rfl (hp_len dy)) (fun v h' hqq => ?_)
      obtain ⟨rfl, g2, r2, hqe, hr2, hF2, hml2⟩ := hqq; rw [hqe]
      have hx2 := mx_fr hx1 (hF2.mono mf_mg)
      have hms2 : ms_ B n g2 r2 (ts_ B n (nx_ B n q1)) o := ⟨hml2, (hF2 52 28 rfl).trans h28, (hF2 52 29 rfl).trans h29⟩
      refine mm_B ok_Mo_either 16 1 (27, [some (.ref 52), some (.int v0), none], [.ref 52], (hp_SH ++ dy, g2, r2)) [] rfl trivial ?_
      rcases pb_inv h2 with ⟨e, h4, rfl⟩ | ⟨q2, c2, h4, h5⟩
      · refine mm_cV (as := []) (st := []) (q := 52) cw_Mo_both lk_Mo_242 in_Mo_both sl_Mo_both rfl rfl (mm_at ok_Mo_either (i := 17) rfl).1 (IH f (by omega) 1 o (nx_ B n q1) (.inr e) g2 r2 (by decide) (by decide) ho hnx h4 (hr2.trans hr) hx2 hms2) (by unfold dp_; omega) ⟨by omega, by omega⟩ (Nat.le_of_ble_eq_true rfl) (mm_vs_b (b := 77) rfl (hp_len dy)) (fun v h' hqq => ?_)
        obtain ⟨x, rfl, g3, r3, hqe, hr3, hF3, hb3, hf3⟩ := hqq; rw [hqe]
        exact mr_cb_either (mr_be_either dy g3 r3 hb3 (hQ _ _ ⟨_, rfl, g3, r3, rfl, hr3, (hF2.mono mf_mg).tr hF3, hb3, hf3⟩))
      · refine mm_cV (as := []) (st := []) (q := 52) cw_Mo_both lk_Mo_242 in_Mo_both sl_Mo_both rfl rfl (mm_at ok_Mo_either (i := 17) rfl).1 (IH f (by omega) 1 o (nx_ B n q1) (.inl (q2, c2)) g2 r2 (by decide) (by decide) ho hnx h4 (hr2.trans hr) hx2 hms2) (by unfold dp_; omega) ⟨by omega, by omega⟩ (Nat.le_of_ble_eq_true rfl) (mm_vs_b (b := 77) rfl (hp_len dy)) (fun v h' hqq => ?_)
        obtain ⟨x, rfl, hpx, g3, r3, hqe, hr3, hF3, hms3⟩ := hqq; rw [hqe]
        have hF13 := (hF2.mono mf_mg).tr hF3
        have hl2 := ps_len f _ _ _ _ _ hnx h4
        have hpx : pv_ sc c2 x := hpx
        have hpv := pv_bin hv hpx (s := -7) (by decide) (by decide) (by decide)
        rcases pb_inv h5 with ⟨e, h6, rfl⟩ | ⟨q3, c3, h6, h7⟩
        · exact mr_cb_either (ih (by omega) o q2 (.inr e) g3 r3 _ (cacc ++ c2 ++ [-7]) Q ho hl2.1.2 h6 hr3 (mx_fr hx1 hF13) hms3 hpv (fun v h' hr => hQ v h' (mq_te hF13 hr)))
        · cases h7
          exact mr_cb_either (ih (by omega) o q2 (.inl (q3, c3)) g3 r3 _ (cacc ++ c2 ++ [-7]) Q ho hl2.1.2 h6 hr3 (mx_fr hx1 hF13) hms3 hpv (fun v h' hr => hQ v h' (mq_tr hF13 (by rw [← List.append_assoc]; exact hr))))
    · have hend : Q (some (.int v0)) (hp_SH ++ dy, g1, r1) := hQ _ _ ⟨v0, rfl, by rw [List.append_nil]; exact hv, g1, r1, rfl, hr, fr_.rf, hml, h28, h29⟩
      refine mm_B ok_Mo_either 3 9 (16, [some (.ref 52), some (.int v0), none], [.int 0, .int 0, .int 0, .int 0, .int 0, .int 0, .int 114, .int 111, .ref 52], (hp_SH ++ dy, g1, r1)) [] rfl trivial ?_
      refine mm_cV (as := [.int 111, .int 114, .int 0, .int 0, .int 0, .int 0, .int 0, .int 0]) (st := []) (q := 52) cw_Mo_isWord lk_Mo_190 in_Mo_isWord sl_Mo_isWord rfl rfl (mm_at ok_Mo_either (i := 12) rfl).1 (ct_Mo_isWord dy g1 r1 hx1 hml h29 (i := 6) (by decide)) (by unfold dp_; omega) ⟨by omega, by omega⟩ (Nat.le_of_ble_eq_true rfl) (mm_vs_b (b := 77) rfl (hp_len dy)) (fun v h' hqq => ?_)
      obtain ⟨rfl, hqe⟩ := hqq; rw [hqe]
      rw [if_neg (show ¬ tk0 B n (ts_ B n q1) = kc_ 6 from h1)]
      refine mm_I ok_Mo_either 13 0 19 [some (.ref 52), some (.int v0), none] [.int 0] (hp_SH ++ dy, g1, r1) [] rfl trivial rfl rfl (fun _ => ?_) (fun q => False.elim (q rfl))
      refine mm_B ok_Mo_either 28 1 (49, [some (.ref 52), some (.int v0), none], [.int v0], (hp_SH ++ dy, g1, r1)) [] rfl trivial ?_
      exact mm_ri rfl (mm_at ok_Mo_either (i := 29) rfl).1 ⟨Nat.le_refl _, Nat.le_refl _⟩ (hend)
theorem mr_c_either (dy : List mm_Sh) (rs : Nat × (Nat → Int32)) {B : Nat → Int32} {n t : Nat} {sc : Nat → Int32} {f : Nat} (IH : ∀ f', f' < f + 1 → mr_P dy rs B n t sc f') {o q : Nat} {res : (Nat × List Int32) ⊕ Nat} {g : Nat → Nat → Int32} {r : (Nat → Nat → Int64) × Nat × (Nat → Int32)} (ho : o ≤ 5) (hq : q ≤ n) (hps : ps_ B n (f + 1) 0 o q = some res) (hr : r.2 = rs) (hx : mx_ g t n B sc) (hms : ms_ B n g r (ts_ B n q) o) : mm_Ct (dp_ 0 o) M_Mo_either [.ref 52] (hp_SH ++ dy, g, r) 0 0 (mq_ dy rs B n sc o g [] res) := by
  refine mm_start pl_Mo (Nat.le_of_ble_eq_true rfl) ?_
  refine mm_B ok_Mo_either 0 1 (1, [some (.ref 52), none, none], [.ref 52], (hp_SH ++ dy, g, r)) [] rfl trivial ?_
  rcases ps_c (by decide) hps with ⟨e, h4, rfl⟩ | ⟨q1, c1, h4, h5⟩
  · refine mm_cV (as := []) (st := []) (q := 52) cw_Mo_both lk_Mo_242 in_Mo_both sl_Mo_both rfl rfl (mm_at ok_Mo_either (i := 1) rfl).1 (IH f (by omega) 1 o q (.inr e) g r (by decide) (by decide) ho hq h4 hr hx hms) (by unfold dp_; omega) ⟨by omega, by omega⟩ (Nat.le_of_ble_eq_true rfl) (mm_vs_b (b := 77) rfl (hp_len dy)) (fun v h' hqq => ?_)
    obtain ⟨x, rfl, g3, r3, hqe, hr3, hF3, hb3, hf3⟩ := hqq; rw [hqe]
    refine mm_B ok_Mo_either 2 1 (5, [some (.ref 52), some (.int x), none], [], (hp_SH ++ dy, g3, r3)) [] rfl trivial ?_
    exact mr_be_either dy g3 r3 hb3 ⟨_, rfl, g3, r3, rfl, hr3, hF3, hb3, hf3⟩
  · refine mm_cV (as := []) (st := []) (q := 52) cw_Mo_both lk_Mo_242 in_Mo_both sl_Mo_both rfl rfl (mm_at ok_Mo_either (i := 1) rfl).1 (IH f (by omega) 1 o q (.inl (q1, c1)) g r (by decide) (by decide) ho hq h4 hr hx hms) (by unfold dp_; omega) ⟨by omega, by omega⟩ (Nat.le_of_ble_eq_true rfl) (mm_vs_b (b := 77) rfl (hp_len dy)) (fun v h' hqq => ?_)
    obtain ⟨x, rfl, hpx, g3, r3, hqe, hr3, hF3, hms3⟩ := hqq; rw [hqe]
    have hl2 := ps_len f _ _ _ _ _ hq h4
    refine mm_B ok_Mo_either 2 1 (5, [some (.ref 52), some (.int x), none], [], (hp_SH ++ dy, g3, r3)) [] rfl trivial ?_
    rcases pb_inv h5 with ⟨e, h6, rfl⟩ | ⟨q3, c3, h6, h7⟩
    · exact mr_lp_either dy rs IH f (by omega) o q1 (.inr e) g3 r3 x c1 _ ho hl2.1.2 h6 hr3 (mx_fr hx hF3) hms3 hpx (fun v h' hr => mq_te hF3 hr)
    · cases h7
      exact mr_lp_either dy rs IH f (by omega) o q1 (.inl (q3, c3)) g3 r3 x c1 _ ho hl2.1.2 h6 hr3 (mx_fr hx hF3) hms3 hpx (fun v h' hr => mq_tr hF3 hr)
theorem mr_lp_both (dy : List mm_Sh) (rs : Nat × (Nat → Int32)) {B : Nat → Int32} {n t : Nat} {sc : Nat → Int32} {F : Nat} (IH : ∀ f, f < F → mr_P dy rs B n t sc f) : ∀ (f : Nat), f ≤ F → ∀ (o q1 : Nat) (res2 : (Nat × List Int32) ⊕ Nat) (g1 : Nat → Nat → Int32) (r1 : (Nat → Nat → Int64) × Nat × (Nat → Int32)) (v0 : Int32) (cacc : List Int32) (Q : Option Value → mm_Hp → Prop), o ≤ 5 → q1 ≤ n → ps_ B n f (1 + 10) o q1 = some res2 → r1.2 = rs → mx_ g1 t n B sc → ms_ B n g1 r1 (ts_ B n q1) o → pv_ sc cacc v0 → (∀ v h', mq_ dy rs B n sc o g1 cacc res2 v h' → Q v h') → mm_W (dp_ 1 o) M_Mo_both 0 0 Q 0 0 (5, [some (.ref 52), some (.int v0), none], [], (hp_SH ++ dy, g1, r1)) := by
  intro f
  induction f with
  | zero => intro _ o q1 res2 g1 r1 v0 cacc Q _ _ h; cases h
  | succ f ih =>
    intro hfF o q1 res2 g1 r1 v0 cacc Q ho hq1 hps hr hx1 hms hv hQ
    obtain ⟨hml, h28, h29⟩ := hms
    have hnx := nx_ub B hq1
    rcases ps_l hps with ⟨h1, h2⟩ | ⟨h1, rfl⟩
    · skip
      have h1e : tk_ B n q1 = -8 := h1
      have h23 : ¬ tk_ B n q1 = -23 := by rw [h1e]; decide
      rw [h1e] at h2
      refine mm_B ok_Mo_both 3 9 (17, [some (.ref 52), some (.int v0), none], [.int 0, .int 0, .int 0, .int 0, .int 0, .int 100, .int 110, .int 97, .ref 52], (hp_SH ++ dy, g1, r1)) [] rfl trivial ?_
      refine mm_cV (as := [.int 97, .int 110, .int 100, .int 0, .int 0, .int 0, .int 0, .int 0]) (st := []) (q := 52) cw_Mo_isWord lk_Mo_190 in_Mo_isWord sl_Mo_isWord rfl rfl (mm_at ok_Mo_both (i := 12) rfl).1 (ct_Mo_isWord dy g1 r1 hx1 hml h29 (i := 7) (by decide)) (by unfold dp_; omega) ⟨by omega, by omega⟩ (Nat.le_of_ble_eq_true rfl) (mm_vs_b (b := 77) rfl (hp_len dy)) (fun v h' hqq => ?_)
      obtain ⟨rfl, hqe⟩ := hqq; rw [hqe]
      rw [if_pos (show tk0 B n (ts_ B n q1) = kc_ 7 from h1e)]
      refine mm_I ok_Mo_both 13 0 20 [some (.ref 52), some (.int v0), none] [.int 1] (hp_SH ++ dy, g1, r1) [] rfl trivial rfl rfl (fun q => False.elim (absurd q (by decide))) (fun _ => ?_)
      refine mm_B ok_Mo_both 14 1 (24, [some (.ref 52), some (.int v0), none], [.ref 52], (hp_SH ++ dy, g1, r1)) [] rfl trivial ?_
      refine mm_cV (as := []) (st := []) (q := 52) cw_Mo_next lk_Mo_187 in_Mo_next sl_Mo_next rfl rfl (mm_at ok_Mo_both (i := 15) rfl).1 (ct_Mo_next dy g1 r1 hx1 hnx (ms_nx hml h23)) (by unfold dp_; omega) ⟨by omega, by omega⟩ (Nat.le_of_ble_eq_true rfl) (mm_vs_b (b := 77) rfl (hp_len dy)) (fun v h' hqq => ?_)
      obtain ⟨rfl, g2, r2, hqe, hr2, hF2, hml2⟩ := hqq; rw [hqe]
      have hx2 := mx_fr hx1 (hF2.mono mf_mg)
      have hms2 : ms_ B n g2 r2 (ts_ B n (nx_ B n q1)) o := ⟨hml2, (hF2 52 28 rfl).trans h28, (hF2 52 29 rfl).trans h29⟩
      refine mm_B ok_Mo_both 16 1 (28, [some (.ref 52), some (.int v0), none], [.ref 52], (hp_SH ++ dy, g2, r2)) [] rfl trivial ?_
      rcases pb_inv h2 with ⟨e, h4, rfl⟩ | ⟨q2, c2, h4, h5⟩
      · refine mm_cV (as := []) (st := []) (q := 52) cw_Mo_not lk_Mo_234 in_Mo_not sl_Mo_not rfl rfl (mm_at ok_Mo_both (i := 17) rfl).1 (IH f (by omega) 2 o (nx_ B n q1) (.inr e) g2 r2 (by decide) (by decide) ho hnx h4 (hr2.trans hr) hx2 hms2) (by unfold dp_; omega) ⟨by omega, by omega⟩ (Nat.le_of_ble_eq_true rfl) (mm_vs_b (b := 77) rfl (hp_len dy)) (fun v h' hqq => ?_)
        obtain ⟨x, rfl, g3, r3, hqe, hr3, hF3, hb3, hf3⟩ := hqq; rw [hqe]
        exact mr_cb_both (mr_be_both dy g3 r3 hb3 (hQ _ _ ⟨_, rfl, g3, r3, rfl, hr3, (hF2.mono mf_mg).tr hF3, hb3, hf3⟩))
      · refine mm_cV (as := []) (st := []) (q := 52) cw_Mo_not lk_Mo_234 in_Mo_not sl_Mo_not rfl rfl (mm_at ok_Mo_both (i := 17) rfl).1 (IH f (by omega) 2 o (nx_ B n q1) (.inl (q2, c2)) g2 r2 (by decide) (by decide) ho hnx h4 (hr2.trans hr) hx2 hms2) (by unfold dp_; omega) ⟨by omega, by omega⟩ (Nat.le_of_ble_eq_true rfl) (mm_vs_b (b := 77) rfl (hp_len dy)) (fun v h' hqq => ?_)
        obtain ⟨x, rfl, hpx, g3, r3, hqe, hr3, hF3, hms3⟩ := hqq; rw [hqe]
        have hF13 := (hF2.mono mf_mg).tr hF3
        have hl2 := ps_len f _ _ _ _ _ hnx h4
        have hpx : pv_ sc c2 x := hpx
        have hpv := pv_bin hv hpx (s := -8) (by decide) (by decide) (by decide)
        rcases pb_inv h5 with ⟨e, h6, rfl⟩ | ⟨q3, c3, h6, h7⟩
        · exact mr_cb_both (ih (by omega) o q2 (.inr e) g3 r3 _ (cacc ++ c2 ++ [-8]) Q ho hl2.1.2 h6 hr3 (mx_fr hx1 hF13) hms3 hpv (fun v h' hr => hQ v h' (mq_te hF13 hr)))
        · cases h7
          exact mr_cb_both (ih (by omega) o q2 (.inl (q3, c3)) g3 r3 _ (cacc ++ c2 ++ [-8]) Q ho hl2.1.2 h6 hr3 (mx_fr hx1 hF13) hms3 hpv (fun v h' hr => hQ v h' (mq_tr hF13 (by rw [← List.append_assoc]; exact hr))))
    · have hend : Q (some (.int v0)) (hp_SH ++ dy, g1, r1) := hQ _ _ ⟨v0, rfl, by rw [List.append_nil]; exact hv, g1, r1, rfl, hr, fr_.rf, hml, h28, h29⟩
      refine mm_B ok_Mo_both 3 9 (17, [some (.ref 52), some (.int v0), none], [.int 0, .int 0, .int 0, .int 0, .int 0, .int 100, .int 110, .int 97, .ref 52], (hp_SH ++ dy, g1, r1)) [] rfl trivial ?_
      refine mm_cV (as := [.int 97, .int 110, .int 100, .int 0, .int 0, .int 0, .int 0, .int 0]) (st := []) (q := 52) cw_Mo_isWord lk_Mo_190 in_Mo_isWord sl_Mo_isWord rfl rfl (mm_at ok_Mo_both (i := 12) rfl).1 (ct_Mo_isWord dy g1 r1 hx1 hml h29 (i := 7) (by decide)) (by unfold dp_; omega) ⟨by omega, by omega⟩ (Nat.le_of_ble_eq_true rfl) (mm_vs_b (b := 77) rfl (hp_len dy)) (fun v h' hqq => ?_)
      obtain ⟨rfl, hqe⟩ := hqq; rw [hqe]
      rw [if_neg (show ¬ tk0 B n (ts_ B n q1) = kc_ 7 from h1)]
      refine mm_I ok_Mo_both 13 0 20 [some (.ref 52), some (.int v0), none] [.int 0] (hp_SH ++ dy, g1, r1) [] rfl trivial rfl rfl (fun _ => ?_) (fun q => False.elim (q rfl))
      refine mm_B ok_Mo_both 28 1 (50, [some (.ref 52), some (.int v0), none], [.int v0], (hp_SH ++ dy, g1, r1)) [] rfl trivial ?_
      exact mm_ri rfl (mm_at ok_Mo_both (i := 29) rfl).1 ⟨Nat.le_refl _, Nat.le_refl _⟩ (hend)
theorem mr_c_both (dy : List mm_Sh) (rs : Nat × (Nat → Int32)) {B : Nat → Int32} {n t : Nat} {sc : Nat → Int32} {f : Nat} (IH : ∀ f', f' < f + 1 → mr_P dy rs B n t sc f') {o q : Nat} {res : (Nat × List Int32) ⊕ Nat} {g : Nat → Nat → Int32} {r : (Nat → Nat → Int64) × Nat × (Nat → Int32)} (ho : o ≤ 5) (hq : q ≤ n) (hps : ps_ B n (f + 1) 1 o q = some res) (hr : r.2 = rs) (hx : mx_ g t n B sc) (hms : ms_ B n g r (ts_ B n q) o) : mm_Ct (dp_ 1 o) M_Mo_both [.ref 52] (hp_SH ++ dy, g, r) 0 0 (mq_ dy rs B n sc o g [] res) := by
  refine mm_start pl_Mo (Nat.le_of_ble_eq_true rfl) ?_
  refine mm_B ok_Mo_both 0 1 (1, [some (.ref 52), none, none], [.ref 52], (hp_SH ++ dy, g, r)) [] rfl trivial ?_
  rcases ps_c (by decide) hps with ⟨e, h4, rfl⟩ | ⟨q1, c1, h4, h5⟩
  · refine mm_cV (as := []) (st := []) (q := 52) cw_Mo_not lk_Mo_234 in_Mo_not sl_Mo_not rfl rfl (mm_at ok_Mo_both (i := 1) rfl).1 (IH f (by omega) 2 o q (.inr e) g r (by decide) (by decide) ho hq h4 hr hx hms) (by unfold dp_; omega) ⟨by omega, by omega⟩ (Nat.le_of_ble_eq_true rfl) (mm_vs_b (b := 77) rfl (hp_len dy)) (fun v h' hqq => ?_)
    obtain ⟨x, rfl, g3, r3, hqe, hr3, hF3, hb3, hf3⟩ := hqq; rw [hqe]
    refine mm_B ok_Mo_both 2 1 (5, [some (.ref 52), some (.int x), none], [], (hp_SH ++ dy, g3, r3)) [] rfl trivial ?_
    exact mr_be_both dy g3 r3 hb3 ⟨_, rfl, g3, r3, rfl, hr3, hF3, hb3, hf3⟩
  · refine mm_cV (as := []) (st := []) (q := 52) cw_Mo_not lk_Mo_234 in_Mo_not sl_Mo_not rfl rfl (mm_at ok_Mo_both (i := 1) rfl).1 (IH f (by omega) 2 o q (.inl (q1, c1)) g r (by decide) (by decide) ho hq h4 hr hx hms) (by unfold dp_; omega) ⟨by omega, by omega⟩ (Nat.le_of_ble_eq_true rfl) (mm_vs_b (b := 77) rfl (hp_len dy)) (fun v h' hqq => ?_)
    obtain ⟨x, rfl, hpx, g3, r3, hqe, hr3, hF3, hms3⟩ := hqq; rw [hqe]
    have hl2 := ps_len f _ _ _ _ _ hq h4
    refine mm_B ok_Mo_both 2 1 (5, [some (.ref 52), some (.int x), none], [], (hp_SH ++ dy, g3, r3)) [] rfl trivial ?_
    rcases pb_inv h5 with ⟨e, h6, rfl⟩ | ⟨q3, c3, h6, h7⟩
    · exact mr_lp_both dy rs IH f (by omega) o q1 (.inr e) g3 r3 x c1 _ ho hl2.1.2 h6 hr3 (mx_fr hx hF3) hms3 hpx (fun v h' hr => mq_te hF3 hr)
    · cases h7
      exact mr_lp_both dy rs IH f (by omega) o q1 (.inl (q3, c3)) g3 r3 x c1 _ ho hl2.1.2 h6 hr3 (mx_fr hx hF3) hms3 hpx (fun v h' hr => mq_tr hF3 hr)
theorem mr_lp_added (dy : List mm_Sh) (rs : Nat × (Nat → Int32)) {B : Nat → Int32} {n t : Nat} {sc : Nat → Int32} {F : Nat} (IH : ∀ f, f < F → mr_P dy rs B n t sc f) : ∀ (f : Nat), f ≤ F → ∀ (o q1 : Nat) (res2 : (Nat × List Int32) ⊕ Nat) (g1 : Nat → Nat → Int32) (r1 : (Nat → Nat → Int64) × Nat × (Nat → Int32)) (v0 : Int32) (cacc : List Int32) (Q : Option Value → mm_Hp → Prop), o ≤ 5 → q1 ≤ n → ps_ B n f (4 + 10) o q1 = some res2 → r1.2 = rs → mx_ g1 t n B sc → ms_ B n g1 r1 (ts_ B n q1) o → pv_ sc cacc v0 → (∀ v h', mq_ dy rs B n sc o g1 cacc res2 v h' → Q v h') → mm_W (dp_ 4 o) M_Mo_added 0 0 Q 0 0 (5, [some (.ref 52), some (.int v0), none, none], [], (hp_SH ++ dy, g1, r1)) := by
  intro f
  induction f with
  | zero => intro _ o q1 res2 g1 r1 v0 cacc Q _ _ h; cases h
  | succ f ih =>
    intro hfF o q1 res2 g1 r1 v0 cacc Q ho hq1 hps hr hx1 hms hv hQ
    obtain ⟨hml, h28, h29⟩ := hms
    have hnx := nx_ub B hq1
    rcases ps_l hps with ⟨h1, h2⟩ | ⟨h1, rfl⟩
    · rcases h1 with h1 | h1
      · skip
        have h1e : tk_ B n q1 = -12 := h1
        have h23 : ¬ tk_ B n q1 = -23 := by rw [h1e]; decide
        rw [h1e] at h2
        refine mm_B ok_Mo_added 3 2 (8, [some (.ref 52), some (.int v0), none, none], [.int 43, .ref 52], (hp_SH ++ dy, g1, r1)) [] rfl trivial ?_
        refine mm_cV (as := [.int 43]) (st := []) (q := 52) cw_Mo_isSign lk_Mo_212 in_Mo_isSign sl_Mo_isSign rfl rfl (mm_at ok_Mo_added (i := 5) rfl).1 (ct_Mo_isSign dy g1 r1 hml h29 (x := 43) (by decide)) (by unfold dp_; omega) ⟨by omega, by omega⟩ (Nat.le_of_ble_eq_true rfl) (mm_vs_b (b := 77) rfl (hp_len dy)) (fun v h' hqq => ?_)
        obtain ⟨rfl, hqe⟩ := hqq; rw [hqe]
        rw [if_pos (show tk0 B n (ts_ B n q1) = sg_ 43 from h1e.trans (by decide))]
        refine mm_I ok_Mo_added 6 0 11 [some (.ref 52), some (.int v0), none, none] [.int 1] (hp_SH ++ dy, g1, r1) [] rfl trivial rfl rfl (fun _ => ?_) (fun q => False.elim (absurd q (by decide)))
        have h3s := tk_sg (x := 43) (by decide) (show tk0 B n (ts_ B n q1) = sg_ 43 from h1e.trans (by decide))
        have htw := hml.2.2.2.2 h3s.1
        refine mm_B ok_Mo_added 11 4 (31, [some (.ref 52), some (.int v0), none, none], [.int (lg_cmp (r1.1 52 27) 43)], (hp_SH ++ dy, g1, r1)) [] rfl trivial ?_
        rw [htw, h3s.2]
        refine mm_I ok_Mo_added 15 0 31 [some (.ref 52), some (.int v0), none, none] [.int (lg_cmp (43 : Int32).toInt64 43)] (hp_SH ++ dy, g1, r1) [] rfl trivial rfl rfl (fun q => False.elim (absurd (by decide) q)) (fun _ => ?_)
        refine mm_B ok_Mo_added 16 2 (39, [some (.ref 52), some (.int v0), none, none], [.int 1], (hp_SH ++ dy, g1, r1)) [] rfl trivial ?_
        refine mm_B ok_Mo_added 19 2 (41, [some (.ref 52), some (.int v0), some (.int 1), none], [.ref 52], (hp_SH ++ dy, g1, r1)) [] rfl trivial ?_
        refine mm_cV (as := []) (st := []) (q := 52) cw_Mo_next lk_Mo_187 in_Mo_next sl_Mo_next rfl rfl (mm_at ok_Mo_added (i := 21) rfl).1 (ct_Mo_next dy g1 r1 hx1 hnx (ms_nx hml h23)) (by unfold dp_; omega) ⟨by omega, by omega⟩ (Nat.le_of_ble_eq_true rfl) (mm_vs_b (b := 77) rfl (hp_len dy)) (fun v h' hqq => ?_)
        obtain ⟨rfl, g2, r2, hqe, hr2, hF2, hml2⟩ := hqq; rw [hqe]
        have hx2 := mx_fr hx1 (hF2.mono mf_mg)
        have hms2 : ms_ B n g2 r2 (ts_ B n (nx_ B n q1)) o := ⟨hml2, (hF2 52 28 rfl).trans h28, (hF2 52 29 rfl).trans h29⟩
        refine mm_B ok_Mo_added 22 1 (45, [some (.ref 52), some (.int v0), some (.int 1), none], [.ref 52], (hp_SH ++ dy, g2, r2)) [] rfl trivial ?_
        rcases pb_inv h2 with ⟨e, h4, rfl⟩ | ⟨q2, c2, h4, h5⟩
        · refine mm_cV (as := []) (st := []) (q := 52) cw_Mo_term lk_Mo_229 in_Mo_term sl_Mo_term rfl rfl (mm_at ok_Mo_added (i := 23) rfl).1 (IH f (by omega) 5 o (nx_ B n q1) (.inr e) g2 r2 (by decide) (by decide) ho hnx h4 (hr2.trans hr) hx2 hms2) (by unfold dp_; omega) ⟨by omega, by omega⟩ (Nat.le_of_ble_eq_true rfl) (mm_vs_b (b := 77) rfl (hp_len dy)) (fun v h' hqq => ?_)
          obtain ⟨x, rfl, g3, r3, hqe, hr3, hF3, hb3, hf3⟩ := hqq; rw [hqe]
          exact mr_cb_added1 (mr_be_added dy g3 r3 hb3 (hQ _ _ ⟨_, rfl, g3, r3, rfl, hr3, (hF2.mono mf_mg).tr hF3, hb3, hf3⟩))
        · refine mm_cV (as := []) (st := []) (q := 52) cw_Mo_term lk_Mo_229 in_Mo_term sl_Mo_term rfl rfl (mm_at ok_Mo_added (i := 23) rfl).1 (IH f (by omega) 5 o (nx_ B n q1) (.inl (q2, c2)) g2 r2 (by decide) (by decide) ho hnx h4 (hr2.trans hr) hx2 hms2) (by unfold dp_; omega) ⟨by omega, by omega⟩ (Nat.le_of_ble_eq_true rfl) (mm_vs_b (b := 77) rfl (hp_len dy)) (fun v h' hqq => ?_)
          obtain ⟨x, rfl, hpx, g3, r3, hqe, hr3, hF3, hms3⟩ := hqq; rw [hqe]
          have hF13 := (hF2.mono mf_mg).tr hF3
          have hl2 := ps_len f _ _ _ _ _ hnx h4
          have hpx : pv_ sc c2 x := hpx
          have hpv := pv_bin hv hpx (s := -12) (by decide) (by decide) (by decide)
          rcases pb_inv h5 with ⟨e, h6, rfl⟩ | ⟨q3, c3, h6, h7⟩
          · exact mr_cb_added1 (ih (by omega) o q2 (.inr e) g3 r3 _ (cacc ++ c2 ++ [-12]) Q ho hl2.1.2 h6 hr3 (mx_fr hx1 hF13) hms3 hpv (fun v h' hr => hQ v h' (mq_te hF13 hr)))
          · cases h7
            exact mr_cb_added1 (ih (by omega) o q2 (.inl (q3, c3)) g3 r3 _ (cacc ++ c2 ++ [-12]) Q ho hl2.1.2 h6 hr3 (mx_fr hx1 hF13) hms3 hpv (fun v h' hr => hQ v h' (mq_tr hF13 (by rw [← List.append_assoc]; exact hr))))
      · skip
        have h1e : tk_ B n q1 = -13 := h1
        have h23 : ¬ tk_ B n q1 = -23 := by rw [h1e]; decide
        rw [h1e] at h2
        refine mm_B ok_Mo_added 3 2 (8, [some (.ref 52), some (.int v0), none, none], [.int 43, .ref 52], (hp_SH ++ dy, g1, r1)) [] rfl trivial ?_
        refine mm_cV (as := [.int 43]) (st := []) (q := 52) cw_Mo_isSign lk_Mo_212 in_Mo_isSign sl_Mo_isSign rfl rfl (mm_at ok_Mo_added (i := 5) rfl).1 (ct_Mo_isSign dy g1 r1 hml h29 (x := 43) (by decide)) (by unfold dp_; omega) ⟨by omega, by omega⟩ (Nat.le_of_ble_eq_true rfl) (mm_vs_b (b := 77) rfl (hp_len dy)) (fun v h' hqq => ?_)
        obtain ⟨rfl, hqe⟩ := hqq; rw [hqe]
        rw [if_neg (show ¬ tk0 B n (ts_ B n q1) = sg_ 43 from fun e => absurd (h1e.symm.trans e) (by decide))]
        refine mm_I ok_Mo_added 6 0 11 [some (.ref 52), some (.int v0), none, none] [.int 0] (hp_SH ++ dy, g1, r1) [] rfl trivial rfl rfl (fun q => False.elim (q rfl)) (fun _ => ?_)
        refine mm_B ok_Mo_added 7 2 (17, [some (.ref 52), some (.int v0), none, none], [.int 45, .ref 52], (hp_SH ++ dy, g1, r1)) [] rfl trivial ?_
        refine mm_cV (as := [.int 45]) (st := []) (q := 52) cw_Mo_isSign lk_Mo_212 in_Mo_isSign sl_Mo_isSign rfl rfl (mm_at ok_Mo_added (i := 9) rfl).1 (ct_Mo_isSign dy g1 r1 hml h29 (x := 45) (by decide)) (by unfold dp_; omega) ⟨by omega, by omega⟩ (Nat.le_of_ble_eq_true rfl) (mm_vs_b (b := 77) rfl (hp_len dy)) (fun v h' hqq => ?_)
        obtain ⟨rfl, hqe⟩ := hqq; rw [hqe]
        rw [if_pos (show tk0 B n (ts_ B n q1) = sg_ 45 from h1e.trans (by decide))]
        refine mm_I ok_Mo_added 10 0 20 [some (.ref 52), some (.int v0), none, none] [.int 1] (hp_SH ++ dy, g1, r1) [] rfl trivial rfl rfl (fun q => False.elim (absurd q (by decide))) (fun _ => ?_)
        have h3s := tk_sg (x := 45) (by decide) (show tk0 B n (ts_ B n q1) = sg_ 45 from h1e.trans (by decide))
        have htw := hml.2.2.2.2 h3s.1
        refine mm_B ok_Mo_added 11 4 (31, [some (.ref 52), some (.int v0), none, none], [.int (lg_cmp (r1.1 52 27) 43)], (hp_SH ++ dy, g1, r1)) [] rfl trivial ?_
        rw [htw, h3s.2]
        refine mm_I ok_Mo_added 15 0 31 [some (.ref 52), some (.int v0), none, none] [.int (lg_cmp (45 : Int32).toInt64 43)] (hp_SH ++ dy, g1, r1) [] rfl trivial rfl rfl (fun _ => ?_) (fun q => False.elim (absurd q (by decide)))
        refine mm_B ok_Mo_added 18 3 (41, [some (.ref 52), some (.int v0), some (.int 0), none], [.ref 52], (hp_SH ++ dy, g1, r1)) [] rfl trivial ?_
        refine mm_cV (as := []) (st := []) (q := 52) cw_Mo_next lk_Mo_187 in_Mo_next sl_Mo_next rfl rfl (mm_at ok_Mo_added (i := 21) rfl).1 (ct_Mo_next dy g1 r1 hx1 hnx (ms_nx hml h23)) (by unfold dp_; omega) ⟨by omega, by omega⟩ (Nat.le_of_ble_eq_true rfl) (mm_vs_b (b := 77) rfl (hp_len dy)) (fun v h' hqq => ?_)
        obtain ⟨rfl, g2, r2, hqe, hr2, hF2, hml2⟩ := hqq; rw [hqe]
        have hx2 := mx_fr hx1 (hF2.mono mf_mg)
        have hms2 : ms_ B n g2 r2 (ts_ B n (nx_ B n q1)) o := ⟨hml2, (hF2 52 28 rfl).trans h28, (hF2 52 29 rfl).trans h29⟩
        refine mm_B ok_Mo_added 22 1 (45, [some (.ref 52), some (.int v0), some (.int 0), none], [.ref 52], (hp_SH ++ dy, g2, r2)) [] rfl trivial ?_
        rcases pb_inv h2 with ⟨e, h4, rfl⟩ | ⟨q2, c2, h4, h5⟩
        · refine mm_cV (as := []) (st := []) (q := 52) cw_Mo_term lk_Mo_229 in_Mo_term sl_Mo_term rfl rfl (mm_at ok_Mo_added (i := 23) rfl).1 (IH f (by omega) 5 o (nx_ B n q1) (.inr e) g2 r2 (by decide) (by decide) ho hnx h4 (hr2.trans hr) hx2 hms2) (by unfold dp_; omega) ⟨by omega, by omega⟩ (Nat.le_of_ble_eq_true rfl) (mm_vs_b (b := 77) rfl (hp_len dy)) (fun v h' hqq => ?_)
          obtain ⟨x, rfl, g3, r3, hqe, hr3, hF3, hb3, hf3⟩ := hqq; rw [hqe]
          exact mr_cb_added0 (mr_be_added dy g3 r3 hb3 (hQ _ _ ⟨_, rfl, g3, r3, rfl, hr3, (hF2.mono mf_mg).tr hF3, hb3, hf3⟩))
        · refine mm_cV (as := []) (st := []) (q := 52) cw_Mo_term lk_Mo_229 in_Mo_term sl_Mo_term rfl rfl (mm_at ok_Mo_added (i := 23) rfl).1 (IH f (by omega) 5 o (nx_ B n q1) (.inl (q2, c2)) g2 r2 (by decide) (by decide) ho hnx h4 (hr2.trans hr) hx2 hms2) (by unfold dp_; omega) ⟨by omega, by omega⟩ (Nat.le_of_ble_eq_true rfl) (mm_vs_b (b := 77) rfl (hp_len dy)) (fun v h' hqq => ?_)
          obtain ⟨x, rfl, hpx, g3, r3, hqe, hr3, hF3, hms3⟩ := hqq; rw [hqe]
          have hF13 := (hF2.mono mf_mg).tr hF3
          have hl2 := ps_len f _ _ _ _ _ hnx h4
          have hpx : pv_ sc c2 x := hpx
          have hpv := pv_bin hv hpx (s := -13) (by decide) (by decide) (by decide)
          rcases pb_inv h5 with ⟨e, h6, rfl⟩ | ⟨q3, c3, h6, h7⟩
          · exact mr_cb_added0 (ih (by omega) o q2 (.inr e) g3 r3 _ (cacc ++ c2 ++ [-13]) Q ho hl2.1.2 h6 hr3 (mx_fr hx1 hF13) hms3 hpv (fun v h' hr => hQ v h' (mq_te hF13 hr)))
          · cases h7
            exact mr_cb_added0 (ih (by omega) o q2 (.inl (q3, c3)) g3 r3 _ (cacc ++ c2 ++ [-13]) Q ho hl2.1.2 h6 hr3 (mx_fr hx1 hF13) hms3 hpv (fun v h' hr => hQ v h' (mq_tr hF13 (by rw [← List.append_assoc]; exact hr))))
    · have hend : Q (some (.int v0)) (hp_SH ++ dy, g1, r1) := hQ _ _ ⟨v0, rfl, by rw [List.append_nil]; exact hv, g1, r1, rfl, hr, fr_.rf, hml, h28, h29⟩
      refine mm_B ok_Mo_added 3 2 (8, [some (.ref 52), some (.int v0), none, none], [.int 43, .ref 52], (hp_SH ++ dy, g1, r1)) [] rfl trivial ?_
      refine mm_cV (as := [.int 43]) (st := []) (q := 52) cw_Mo_isSign lk_Mo_212 in_Mo_isSign sl_Mo_isSign rfl rfl (mm_at ok_Mo_added (i := 5) rfl).1 (ct_Mo_isSign dy g1 r1 hml h29 (x := 43) (by decide)) (by unfold dp_; omega) ⟨by omega, by omega⟩ (Nat.le_of_ble_eq_true rfl) (mm_vs_b (b := 77) rfl (hp_len dy)) (fun v h' hqq => ?_)
      obtain ⟨rfl, hqe⟩ := hqq; rw [hqe]
      rw [if_neg (show ¬ tk0 B n (ts_ B n q1) = sg_ 43 from fun e => h1 (Or.inl (show tk_ B n q1 = -12 from e.trans (by decide))))]
      refine mm_I ok_Mo_added 6 0 11 [some (.ref 52), some (.int v0), none, none] [.int 0] (hp_SH ++ dy, g1, r1) [] rfl trivial rfl rfl (fun q => False.elim (q rfl)) (fun _ => ?_)
      refine mm_B ok_Mo_added 7 2 (17, [some (.ref 52), some (.int v0), none, none], [.int 45, .ref 52], (hp_SH ++ dy, g1, r1)) [] rfl trivial ?_
      refine mm_cV (as := [.int 45]) (st := []) (q := 52) cw_Mo_isSign lk_Mo_212 in_Mo_isSign sl_Mo_isSign rfl rfl (mm_at ok_Mo_added (i := 9) rfl).1 (ct_Mo_isSign dy g1 r1 hml h29 (x := 45) (by decide)) (by unfold dp_; omega) ⟨by omega, by omega⟩ (Nat.le_of_ble_eq_true rfl) (mm_vs_b (b := 77) rfl (hp_len dy)) (fun v h' hqq => ?_)
      obtain ⟨rfl, hqe⟩ := hqq; rw [hqe]
      rw [if_neg (show ¬ tk0 B n (ts_ B n q1) = sg_ 45 from fun e => h1 (Or.inr (show tk_ B n q1 = -13 from e.trans (by decide))))]
      refine mm_I ok_Mo_added 10 0 20 [some (.ref 52), some (.int v0), none, none] [.int 0] (hp_SH ++ dy, g1, r1) [] rfl trivial rfl rfl (fun _ => ?_) (fun q => False.elim (q rfl))
      refine mm_B ok_Mo_added 36 1 (67, [some (.ref 52), some (.int v0), none, none], [.int v0], (hp_SH ++ dy, g1, r1)) [] rfl trivial ?_
      exact mm_ri rfl (mm_at ok_Mo_added (i := 37) rfl).1 ⟨Nat.le_refl _, Nat.le_refl _⟩ (hend)
theorem mr_c_added (dy : List mm_Sh) (rs : Nat × (Nat → Int32)) {B : Nat → Int32} {n t : Nat} {sc : Nat → Int32} {f : Nat} (IH : ∀ f', f' < f + 1 → mr_P dy rs B n t sc f') {o q : Nat} {res : (Nat × List Int32) ⊕ Nat} {g : Nat → Nat → Int32} {r : (Nat → Nat → Int64) × Nat × (Nat → Int32)} (ho : o ≤ 5) (hq : q ≤ n) (hps : ps_ B n (f + 1) 4 o q = some res) (hr : r.2 = rs) (hx : mx_ g t n B sc) (hms : ms_ B n g r (ts_ B n q) o) : mm_Ct (dp_ 4 o) M_Mo_added [.ref 52] (hp_SH ++ dy, g, r) 0 0 (mq_ dy rs B n sc o g [] res) := by
  refine mm_start pl_Mo (Nat.le_of_ble_eq_true rfl) ?_
  refine mm_B ok_Mo_added 0 1 (1, [some (.ref 52), none, none, none], [.ref 52], (hp_SH ++ dy, g, r)) [] rfl trivial ?_
  rcases ps_c (by decide) hps with ⟨e, h4, rfl⟩ | ⟨q1, c1, h4, h5⟩
  · refine mm_cV (as := []) (st := []) (q := 52) cw_Mo_term lk_Mo_229 in_Mo_term sl_Mo_term rfl rfl (mm_at ok_Mo_added (i := 1) rfl).1 (IH f (by omega) 5 o q (.inr e) g r (by decide) (by decide) ho hq h4 hr hx hms) (by unfold dp_; omega) ⟨by omega, by omega⟩ (Nat.le_of_ble_eq_true rfl) (mm_vs_b (b := 77) rfl (hp_len dy)) (fun v h' hqq => ?_)
    obtain ⟨x, rfl, g3, r3, hqe, hr3, hF3, hb3, hf3⟩ := hqq; rw [hqe]
    refine mm_B ok_Mo_added 2 1 (5, [some (.ref 52), some (.int x), none, none], [], (hp_SH ++ dy, g3, r3)) [] rfl trivial ?_
    exact mr_be_added dy g3 r3 hb3 ⟨_, rfl, g3, r3, rfl, hr3, hF3, hb3, hf3⟩
  · refine mm_cV (as := []) (st := []) (q := 52) cw_Mo_term lk_Mo_229 in_Mo_term sl_Mo_term rfl rfl (mm_at ok_Mo_added (i := 1) rfl).1 (IH f (by omega) 5 o q (.inl (q1, c1)) g r (by decide) (by decide) ho hq h4 hr hx hms) (by unfold dp_; omega) ⟨by omega, by omega⟩ (Nat.le_of_ble_eq_true rfl) (mm_vs_b (b := 77) rfl (hp_len dy)) (fun v h' hqq => ?_)
    obtain ⟨x, rfl, hpx, g3, r3, hqe, hr3, hF3, hms3⟩ := hqq; rw [hqe]
    have hl2 := ps_len f _ _ _ _ _ hq h4
    refine mm_B ok_Mo_added 2 1 (5, [some (.ref 52), some (.int x), none, none], [], (hp_SH ++ dy, g3, r3)) [] rfl trivial ?_
    rcases pb_inv h5 with ⟨e, h6, rfl⟩ | ⟨q3, c3, h6, h7⟩
    · exact mr_lp_added dy rs IH f (by omega) o q1 (.inr e) g3 r3 x c1 _ ho hl2.1.2 h6 hr3 (mx_fr hx hF3) hms3 hpx (fun v h' hr => mq_te hF3 hr)
    · cases h7
      exact mr_lp_added dy rs IH f (by omega) o q1 (.inl (q3, c3)) g3 r3 x c1 _ ho hl2.1.2 h6 hr3 (mx_fr hx hF3) hms3 hpx (fun v h' hr => mq_tr hF3 hr)
theorem mr_lp_term (dy : List mm_Sh) (rs : Nat × (Nat → Int32)) {B : Nat → Int32} {n t : Nat} {sc : Nat → Int32} {F : Nat} (IH : ∀ f, f < F → mr_P dy rs B n t sc f) : ∀ (f : Nat), f ≤ F → ∀ (o q1 : Nat) (res2 : (Nat × List Int32) ⊕ Nat) (g1 : Nat → Nat → Int32) (r1 : (Nat → Nat → Int64) × Nat × (Nat → Int32)) (v0 : Int32) (cacc : List Int32) (Q : Option Value → mm_Hp → Prop), o ≤ 5 → q1 ≤ n → ps_ B n f (5 + 10) o q1 = some res2 → r1.2 = rs → mx_ g1 t n B sc → ms_ B n g1 r1 (ts_ B n q1) o → pv_ sc cacc v0 → (∀ v h', mq_ dy rs B n sc o g1 cacc res2 v h' → Q v h') → mm_W (dp_ 5 o) M_Mo_term 0 0 Q 0 0 (5, [some (.ref 52), some (.int v0)], [], (hp_SH ++ dy, g1, r1)) := by
  intro f
  induction f with
  | zero => intro _ o q1 res2 g1 r1 v0 cacc Q _ _ h; cases h
  | succ f ih =>
    intro hfF o q1 res2 g1 r1 v0 cacc Q ho hq1 hps hr hx1 hms hv hQ
    obtain ⟨hml, h28, h29⟩ := hms
    have hnx := nx_ub B hq1
    rcases ps_l hps with ⟨h1, h2⟩ | ⟨h1, rfl⟩
    · skip
      have h1e : tk_ B n q1 = -14 := h1
      have h23 : ¬ tk_ B n q1 = -23 := by rw [h1e]; decide
      rw [h1e] at h2
      refine mm_B ok_Mo_term 3 2 (8, [some (.ref 52), some (.int v0)], [.int 42, .ref 52], (hp_SH ++ dy, g1, r1)) [] rfl trivial ?_
      refine mm_cV (as := [.int 42]) (st := []) (q := 52) cw_Mo_isSign lk_Mo_212 in_Mo_isSign sl_Mo_isSign rfl rfl (mm_at ok_Mo_term (i := 5) rfl).1 (ct_Mo_isSign dy g1 r1 hml h29 (x := 42) (by decide)) (by unfold dp_; omega) ⟨by omega, by omega⟩ (Nat.le_of_ble_eq_true rfl) (mm_vs_b (b := 77) rfl (hp_len dy)) (fun v h' hqq => ?_)
      obtain ⟨rfl, hqe⟩ := hqq; rw [hqe]
      rw [if_pos (show tk0 B n (ts_ B n q1) = sg_ 42 from h1e.trans (by decide))]
      refine mm_I ok_Mo_term 6 0 11 [some (.ref 52), some (.int v0)] [.int 1] (hp_SH ++ dy, g1, r1) [] rfl trivial rfl rfl (fun q => False.elim (absurd q (by decide))) (fun _ => ?_)
      refine mm_B ok_Mo_term 7 1 (15, [some (.ref 52), some (.int v0)], [.ref 52], (hp_SH ++ dy, g1, r1)) [] rfl trivial ?_
      refine mm_cV (as := []) (st := []) (q := 52) cw_Mo_next lk_Mo_187 in_Mo_next sl_Mo_next rfl rfl (mm_at ok_Mo_term (i := 8) rfl).1 (ct_Mo_next dy g1 r1 hx1 hnx (ms_nx hml h23)) (by unfold dp_; omega) ⟨by omega, by omega⟩ (Nat.le_of_ble_eq_true rfl) (mm_vs_b (b := 77) rfl (hp_len dy)) (fun v h' hqq => ?_)
      obtain ⟨rfl, g2, r2, hqe, hr2, hF2, hml2⟩ := hqq; rw [hqe]
      have hx2 := mx_fr hx1 (hF2.mono mf_mg)
      have hms2 : ms_ B n g2 r2 (ts_ B n (nx_ B n q1)) o := ⟨hml2, (hF2 52 28 rfl).trans h28, (hF2 52 29 rfl).trans h29⟩
      refine mm_B ok_Mo_term 9 2 (20, [some (.ref 52), some (.int v0)], [.ref 52, .int v0], (hp_SH ++ dy, g2, r2)) [] rfl trivial ?_
      rcases pb_inv h2 with ⟨e, h4, rfl⟩ | ⟨q2, c2, h4, h5⟩
      · refine mm_cV (as := []) (st := [.int v0]) (q := 52) cw_Mo_atom lk_Mo_219 in_Mo_atom sl_Mo_atom rfl rfl (mm_at ok_Mo_term (i := 11) rfl).1 (IH f (by omega) 6 o (nx_ B n q1) (.inr e) g2 r2 (by decide) (by decide) ho hnx h4 (hr2.trans hr) hx2 hms2) (by unfold dp_; omega) ⟨by omega, by omega⟩ (Nat.le_of_ble_eq_true rfl) (mm_vs_b (b := 77) rfl (hp_len dy)) (fun v h' hqq => ?_)
        obtain ⟨x, rfl, g3, r3, hqe, hr3, hF3, hb3, hf3⟩ := hqq; rw [hqe]
        exact mr_cb_term (mr_be_term dy g3 r3 hb3 (hQ _ _ ⟨_, rfl, g3, r3, rfl, hr3, (hF2.mono mf_mg).tr hF3, hb3, hf3⟩))
      · refine mm_cV (as := []) (st := [.int v0]) (q := 52) cw_Mo_atom lk_Mo_219 in_Mo_atom sl_Mo_atom rfl rfl (mm_at ok_Mo_term (i := 11) rfl).1 (IH f (by omega) 6 o (nx_ B n q1) (.inl (q2, c2)) g2 r2 (by decide) (by decide) ho hnx h4 (hr2.trans hr) hx2 hms2) (by unfold dp_; omega) ⟨by omega, by omega⟩ (Nat.le_of_ble_eq_true rfl) (mm_vs_b (b := 77) rfl (hp_len dy)) (fun v h' hqq => ?_)
        obtain ⟨x, rfl, hpx, g3, r3, hqe, hr3, hF3, hms3⟩ := hqq; rw [hqe]
        have hF13 := (hF2.mono mf_mg).tr hF3
        have hl2 := ps_len f _ _ _ _ _ hnx h4
        have hpx : pv_ sc c2 x := hpx
        have hpv := pv_bin hv hpx (s := -14) (by decide) (by decide) (by decide)
        rcases pb_inv h5 with ⟨e, h6, rfl⟩ | ⟨q3, c3, h6, h7⟩
        · exact mr_cb_term (ih (by omega) o q2 (.inr e) g3 r3 _ (cacc ++ c2 ++ [-14]) Q ho hl2.1.2 h6 hr3 (mx_fr hx1 hF13) hms3 hpv (fun v h' hr => hQ v h' (mq_te hF13 hr)))
        · cases h7
          exact mr_cb_term (ih (by omega) o q2 (.inl (q3, c3)) g3 r3 _ (cacc ++ c2 ++ [-14]) Q ho hl2.1.2 h6 hr3 (mx_fr hx1 hF13) hms3 hpv (fun v h' hr => hQ v h' (mq_tr hF13 (by rw [← List.append_assoc]; exact hr))))
    · have hend : Q (some (.int v0)) (hp_SH ++ dy, g1, r1) := hQ _ _ ⟨v0, rfl, by rw [List.append_nil]; exact hv, g1, r1, rfl, hr, fr_.rf, hml, h28, h29⟩
      refine mm_B ok_Mo_term 3 2 (8, [some (.ref 52), some (.int v0)], [.int 42, .ref 52], (hp_SH ++ dy, g1, r1)) [] rfl trivial ?_
      refine mm_cV (as := [.int 42]) (st := []) (q := 52) cw_Mo_isSign lk_Mo_212 in_Mo_isSign sl_Mo_isSign rfl rfl (mm_at ok_Mo_term (i := 5) rfl).1 (ct_Mo_isSign dy g1 r1 hml h29 (x := 42) (by decide)) (by unfold dp_; omega) ⟨by omega, by omega⟩ (Nat.le_of_ble_eq_true rfl) (mm_vs_b (b := 77) rfl (hp_len dy)) (fun v h' hqq => ?_)
      obtain ⟨rfl, hqe⟩ := hqq; rw [hqe]
      rw [if_neg (show ¬ tk0 B n (ts_ B n q1) = sg_ 42 from fun e => h1 (show tk_ B n q1 = -14 from e.trans (by decide)))]
      refine mm_I ok_Mo_term 6 0 11 [some (.ref 52), some (.int v0)] [.int 0] (hp_SH ++ dy, g1, r1) [] rfl trivial rfl rfl (fun _ => ?_) (fun q => False.elim (q rfl))
      refine mm_B ok_Mo_term 15 1 (29, [some (.ref 52), some (.int v0)], [.int v0], (hp_SH ++ dy, g1, r1)) [] rfl trivial ?_
      exact mm_ri rfl (mm_at ok_Mo_term (i := 16) rfl).1 ⟨Nat.le_refl _, Nat.le_refl _⟩ (hend)
theorem mr_c_term (dy : List mm_Sh) (rs : Nat × (Nat → Int32)) {B : Nat → Int32} {n t : Nat} {sc : Nat → Int32} {f : Nat} (IH : ∀ f', f' < f + 1 → mr_P dy rs B n t sc f') {o q : Nat} {res : (Nat × List Int32) ⊕ Nat} {g : Nat → Nat → Int32} {r : (Nat → Nat → Int64) × Nat × (Nat → Int32)} (ho : o ≤ 5) (hq : q ≤ n) (hps : ps_ B n (f + 1) 5 o q = some res) (hr : r.2 = rs) (hx : mx_ g t n B sc) (hms : ms_ B n g r (ts_ B n q) o) : mm_Ct (dp_ 5 o) M_Mo_term [.ref 52] (hp_SH ++ dy, g, r) 0 0 (mq_ dy rs B n sc o g [] res) := by
  refine mm_start pl_Mo (Nat.le_of_ble_eq_true rfl) ?_
  refine mm_B ok_Mo_term 0 1 (1, [some (.ref 52), none], [.ref 52], (hp_SH ++ dy, g, r)) [] rfl trivial ?_
  rcases ps_c (by decide) hps with ⟨e, h4, rfl⟩ | ⟨q1, c1, h4, h5⟩
  · refine mm_cV (as := []) (st := []) (q := 52) cw_Mo_atom lk_Mo_219 in_Mo_atom sl_Mo_atom rfl rfl (mm_at ok_Mo_term (i := 1) rfl).1 (IH f (by omega) 6 o q (.inr e) g r (by decide) (by decide) ho hq h4 hr hx hms) (by unfold dp_; omega) ⟨by omega, by omega⟩ (Nat.le_of_ble_eq_true rfl) (mm_vs_b (b := 77) rfl (hp_len dy)) (fun v h' hqq => ?_)
    obtain ⟨x, rfl, g3, r3, hqe, hr3, hF3, hb3, hf3⟩ := hqq; rw [hqe]
    refine mm_B ok_Mo_term 2 1 (5, [some (.ref 52), some (.int x)], [], (hp_SH ++ dy, g3, r3)) [] rfl trivial ?_
    exact mr_be_term dy g3 r3 hb3 ⟨_, rfl, g3, r3, rfl, hr3, hF3, hb3, hf3⟩
  · refine mm_cV (as := []) (st := []) (q := 52) cw_Mo_atom lk_Mo_219 in_Mo_atom sl_Mo_atom rfl rfl (mm_at ok_Mo_term (i := 1) rfl).1 (IH f (by omega) 6 o q (.inl (q1, c1)) g r (by decide) (by decide) ho hq h4 hr hx hms) (by unfold dp_; omega) ⟨by omega, by omega⟩ (Nat.le_of_ble_eq_true rfl) (mm_vs_b (b := 77) rfl (hp_len dy)) (fun v h' hqq => ?_)
    obtain ⟨x, rfl, hpx, g3, r3, hqe, hr3, hF3, hms3⟩ := hqq; rw [hqe]
    have hl2 := ps_len f _ _ _ _ _ hq h4
    refine mm_B ok_Mo_term 2 1 (5, [some (.ref 52), some (.int x)], [], (hp_SH ++ dy, g3, r3)) [] rfl trivial ?_
    rcases pb_inv h5 with ⟨e, h6, rfl⟩ | ⟨q3, c3, h6, h7⟩
    · exact mr_lp_term dy rs IH f (by omega) o q1 (.inr e) g3 r3 x c1 _ ho hl2.1.2 h6 hr3 (mx_fr hx hF3) hms3 hpx (fun v h' hr => mq_te hF3 hr)
    · cases h7
      exact mr_lp_term dy rs IH f (by omega) o q1 (.inl (q3, c3)) g3 r3 x c1 _ ho hl2.1.2 h6 hr3 (mx_fr hx hF3) hms3 hpx (fun v h' hr => mq_tr hF3 hr)
theorem mr_c_not (dy : List mm_Sh) (rs : Nat × (Nat → Int32)) {B : Nat → Int32} {n t : Nat} {sc : Nat → Int32} {f : Nat} (IH : ∀ f', f' < f + 1 → mr_P dy rs B n t sc f') {o q : Nat} {res : (Nat × List Int32) ⊕ Nat} {g : Nat → Nat → Int32} {r : (Nat → Nat → Int64) × Nat × (Nat → Int32)} (ho : o ≤ 5) (hq : q ≤ n) (hps : ps_ B n (f + 1) 2 o q = some res) (hr : r.2 = rs) (hx : mx_ g t n B sc) (hms : ms_ B n g r (ts_ B n q) o) : mm_Ct (dp_ 2 o) M_Mo_not [.ref 52] (hp_SH ++ dy, g, r) 0 0 (mq_ dy rs B n sc o g [] res) := by
  refine mm_start pl_Mo (Nat.le_of_ble_eq_true rfl) ?_
  obtain ⟨hml, h28, h29⟩ := hms
  have hnx := nx_ub B hq
  refine mm_B ok_Mo_not 0 9 (12, [some (.ref 52), none, none, none], [.int 0, .int 0, .int 0, .int 0, .int 0, .int 116, .int 111, .int 110, .ref 52], (hp_SH ++ dy, g, r)) [] rfl trivial ?_
  refine mm_cV (as := [.int 110, .int 111, .int 116, .int 0, .int 0, .int 0, .int 0, .int 0]) (st := []) (q := 52) cw_Mo_isWord lk_Mo_190 in_Mo_isWord sl_Mo_isWord rfl rfl (mm_at ok_Mo_not (i := 9) rfl).1 (ct_Mo_isWord dy g r hx hml h29 (i := 8) (by decide)) (by unfold dp_; omega) ⟨by omega, by omega⟩ (Nat.le_of_ble_eq_true rfl) (mm_vs_b (b := 77) rfl (hp_len dy)) (fun v h' hqq => ?_)
  obtain ⟨rfl, hqe⟩ := hqq; rw [hqe]
  rcases ps_2 hps with ⟨h1, h2, h3⟩ | ⟨h1, h2, rfl⟩ | ⟨h1, h3⟩
  · have h23 : ¬ tk_ B n q = -23 := by rw [h1]; decide
    rw [if_pos (show tk0 B n (ts_ B n q) = kc_ 8 from h1)]
    refine mm_I ok_Mo_not 10 0 15 [some (.ref 52), none, none, none] [.int 1] (hp_SH ++ dy, g, r) [] rfl trivial rfl rfl (fun q => False.elim (absurd q (by decide))) (fun _ => ?_)
    refine mm_B ok_Mo_not 11 1 (19, [some (.ref 52), none, none, none], [.ref 52], (hp_SH ++ dy, g, r)) [] rfl trivial ?_
    refine mm_cV (as := []) (st := []) (q := 52) cw_Mo_opens lk_Mo_215 in_Mo_opens sl_Mo_opens rfl rfl (mm_at ok_Mo_not (i := 12) rfl).1 (ct_Mo_opens dy g r hx ⟨hml, h28, h29⟩ hq h2 h23) (by unfold dp_; omega) ⟨by omega, by omega⟩ (Nat.le_of_ble_eq_true rfl) (mm_vs_b (b := 77) rfl (hp_len dy)) (fun v h' hqq => ?_)
    obtain ⟨rfl, g2, r2, hqe, hr2, hF2, hms2⟩ := hqq; rw [hqe]
    refine mm_I ok_Mo_not 13 0 22 [some (.ref 52), none, none, none] [.int 1] (hp_SH ++ dy, g2, r2) [] rfl trivial rfl rfl (fun _ => ?_) (fun q => False.elim (absurd q (by decide)))
    refine mm_B ok_Mo_not 16 1 (28, [some (.ref 52), none, none, none], [.ref 52], (hp_SH ++ dy, g2, r2)) [] rfl trivial ?_
    rcases pb_inv h3 with ⟨e, h4, rfl⟩ | ⟨q2, c2, h4, h5⟩
    · refine mm_cV (as := []) (st := []) (q := 52) cw_Mo_not lk_Mo_234 in_Mo_not sl_Mo_not rfl rfl (mm_at ok_Mo_not (i := 17) rfl).1 (IH f (by omega) 2 (o + 1) (nx_ B n q) (.inr e) g2 r2 (by decide) (by decide) (by omega) hnx h4 (hr2.trans hr) (mx_fr hx hF2) hms2) (by unfold dp_; omega) ⟨by omega, by omega⟩ (Nat.le_of_ble_eq_true rfl) (mm_vs_b (b := 77) rfl (hp_len dy)) (fun v h' hqq => ?_)
      obtain ⟨x, rfl, g3, r3, hqe, hr3, hF3, hb3, hf3⟩ := hqq; rw [hqe]
      have hend : ∀ (v w : Int32), mq_ dy rs B n sc o g [] (.inr e) (some (.int v)) (hp_SH ++ dy, mm_up g3 52 28 w, r3) := fun v w => ⟨v, rfl, _, r3, rfl, hr3, (hF2.tr hF3).up _ rfl, hb3, hf3⟩
      refine mm_I ok_Mo_not 18 8 43 [some (.ref 52), some (.int x), none, none] [.int x] (hp_SH ++ dy, mm_up g3 52 28 ((g3 52 28) - 1), r3) [] rfl trivial rfl rfl (fun c1 => ?_) (fun c1 => ?_)
      · refine mm_B ok_Mo_not 29 1 (51, [some (.ref 52), some (.int x), none, none], [.int 0], (hp_SH ++ dy, mm_up g3 52 28 ((g3 52 28) - 1), r3)) [] rfl trivial ?_
        exact mm_ri rfl (mm_at ok_Mo_not (i := 30) rfl).1 ⟨Nat.le_refl _, Nat.le_refl _⟩ (hend _ _)
      · refine mm_B ok_Mo_not 27 2 (51, [some (.ref 52), some (.int x), none, none], [.int 1], (hp_SH ++ dy, mm_up g3 52 28 ((g3 52 28) - 1), r3)) [] rfl trivial ?_
        exact mm_ri rfl (mm_at ok_Mo_not (i := 30) rfl).1 ⟨Nat.le_refl _, Nat.le_refl _⟩ (hend _ _)
    · cases h5
      refine mm_cV (as := []) (st := []) (q := 52) cw_Mo_not lk_Mo_234 in_Mo_not sl_Mo_not rfl rfl (mm_at ok_Mo_not (i := 17) rfl).1 (IH f (by omega) 2 (o + 1) (nx_ B n q) (.inl (q2, c2)) g2 r2 (by decide) (by decide) (by omega) hnx h4 (hr2.trans hr) (mx_fr hx hF2) hms2) (by unfold dp_; omega) ⟨by omega, by omega⟩ (Nat.le_of_ble_eq_true rfl) (mm_vs_b (b := 77) rfl (hp_len dy)) (fun v h' hqq => ?_)
      obtain ⟨x, rfl, hpx, g3, r3, hqe, hr3, hF3, hms3⟩ := hqq; rw [hqe]
      have h328 : g3 52 28 = nI (o + 1) := hms3.2.1
      have hpu := (pv_un (show pv_ sc c2 x from hpx)).1
      refine mm_B ok_Mo_not 18 8 (43, [some (.ref 52), some (.int x), none, none], [.int x], (hp_SH ++ dy, mm_up g3 52 28 ((g3 52 28) - 1), r3)) [] rfl trivial ?_
      rw [h328, nI_pred]
      refine mm_I ok_Mo_not 26 0 43 [some (.ref 52), some (.int x), none, none] [.int x] (hp_SH ++ dy, mm_up g3 52 28 (nI o), r3) [] rfl trivial rfl rfl (fun c1 => ?_) (fun c1 => ?_)
      · refine mm_B ok_Mo_not 29 1 (51, [some (.ref 52), some (.int x), none, none], [.int 0], (hp_SH ++ dy, mm_up g3 52 28 (nI o), r3)) [] rfl trivial ?_
        exact mm_ri rfl (mm_at ok_Mo_not (i := 30) rfl).1 ⟨Nat.le_refl _, Nat.le_refl _⟩ (⟨_, rfl, by rw [if_neg c1] at hpu; exact hpu, _, r3, rfl, hr3, (hF2.tr hF3).up _ rfl, ms_up hms3⟩)
      · refine mm_B ok_Mo_not 27 2 (51, [some (.ref 52), some (.int x), none, none], [.int 1], (hp_SH ++ dy, mm_up g3 52 28 (nI o), r3)) [] rfl trivial ?_
        exact mm_ri rfl (mm_at ok_Mo_not (i := 30) rfl).1 ⟨Nat.le_refl _, Nat.le_refl _⟩ (⟨_, rfl, by rw [if_pos c1] at hpu; exact hpu, _, r3, rfl, hr3, (hF2.tr hF3).up _ rfl, ms_up hms3⟩)
  · have ho5 : o = 5 := by omega
    subst ho5
    rw [if_pos (show tk0 B n (ts_ B n q) = kc_ 8 from h1)]
    refine mm_I ok_Mo_not 10 0 15 [some (.ref 52), none, none, none] [.int 1] (hp_SH ++ dy, g, r) [] rfl trivial rfl rfl (fun q => False.elim (absurd q (by decide))) (fun _ => ?_)
    refine mm_B ok_Mo_not 11 1 (19, [some (.ref 52), none, none, none], [.ref 52], (hp_SH ++ dy, g, r)) [] rfl trivial ?_
    refine mm_cV (as := []) (st := []) (q := 52) cw_Mo_opens lk_Mo_215 in_Mo_opens sl_Mo_opens rfl rfl (mm_at ok_Mo_not (i := 12) rfl).1 (ct_Mo_opens5 dy g r h28 h29) (by unfold dp_; omega) ⟨by omega, by omega⟩ (Nat.le_of_ble_eq_true rfl) (mm_vs_b (b := 77) rfl (hp_len dy)) (fun v h' hqq => ?_)
    obtain ⟨rfl, hqe⟩ := hqq; rw [hqe]
    refine mm_I ok_Mo_not 13 0 22 [some (.ref 52), none, none, none] [.int 0] (hp_SH ++ dy, mm_up (mm_up g 52 29 1) 52 30 (g 52 26), r) [] rfl trivial rfl rfl (fun q => False.elim (q rfl)) (fun _ => ?_)
    refine mm_B ok_Mo_not 14 1 (26, [some (.ref 52), none, none, none], [.int 0], (hp_SH ++ dy, mm_up (mm_up g 52 29 1) 52 30 (g 52 26), r)) [] rfl trivial ?_
    exact mm_ri rfl (mm_at ok_Mo_not (i := 15) rfl).1 ⟨Nat.le_refl _, Nat.le_refl _⟩ (⟨_, rfl, _, r, rfl, hr, (fr_.rf.up _ rfl).up _ rfl, rfl, hml.2.2.1⟩)
  · rw [if_neg (show ¬ tk0 B n (ts_ B n q) = kc_ 8 from h1)]
    refine mm_I ok_Mo_not 10 0 15 [some (.ref 52), none, none, none] [.int 0] (hp_SH ++ dy, g, r) [] rfl trivial rfl rfl (fun _ => ?_) (fun q => False.elim (q rfl))
    refine mm_B ok_Mo_not 31 1 (53, [some (.ref 52), none, none, none], [.ref 52], (hp_SH ++ dy, g, r)) [] rfl trivial ?_
    cases f with
    | zero => cases h3
    | succ f =>
      rcases ps_3 h3 with ⟨e, h4, rfl⟩ | ⟨q1, c1, h4, h5⟩
      · refine mm_cV (as := []) (st := []) (q := 52) cw_Mo_added lk_Mo_237 in_Mo_added sl_Mo_added rfl rfl (mm_at ok_Mo_not (i := 32) rfl).1 (IH f (by omega) 4 o q (.inr e) g r (by decide) (by decide) ho hq h4 hr hx ⟨hml, h28, h29⟩) (by unfold dp_; omega) ⟨by omega, by omega⟩ (Nat.le_of_ble_eq_true rfl) (mm_vs_b (b := 77) rfl (hp_len dy)) (fun v h' hqq => ?_)
        obtain ⟨x, rfl, g3, r3, hqe, hr3, hF3, hb3, hf3⟩ := hqq; rw [hqe]
        refine mm_B ok_Mo_not 33 3 (60, [some (.ref 52), some (.int x), none, none], [.int 60, .ref 52], (hp_SH ++ dy, g3, r3)) [] rfl trivial ?_
        refine mm_cV (as := [.int 60]) (st := []) (q := 52) cw_Mo_isSign lk_Mo_212 in_Mo_isSign sl_Mo_isSign rfl rfl (mm_at ok_Mo_not (i := 36) rfl).1 (ct_Mo_isSign1 dy g3 r3 hb3 60) (by unfold dp_; omega) ⟨by omega, by omega⟩ (Nat.le_of_ble_eq_true rfl) (mm_vs_b (b := 77) rfl (hp_len dy)) (fun v h' hqq => ?_)
        obtain ⟨rfl, hqe⟩ := hqq; rw [hqe]
        refine mm_I ok_Mo_not 37 0 63 [some (.ref 52), some (.int x), none, none] [.int 0] (hp_SH ++ dy, g3, r3) [] rfl trivial rfl rfl (fun q => False.elim (q rfl)) (fun _ => ?_)
        refine mm_B ok_Mo_not 38 2 (69, [some (.ref 52), some (.int x), none, none], [.int 61, .ref 52], (hp_SH ++ dy, g3, r3)) [] rfl trivial ?_
        refine mm_cV (as := [.int 61]) (st := []) (q := 52) cw_Mo_isSign lk_Mo_212 in_Mo_isSign sl_Mo_isSign rfl rfl (mm_at ok_Mo_not (i := 40) rfl).1 (ct_Mo_isSign1 dy g3 r3 hb3 61) (by unfold dp_; omega) ⟨by omega, by omega⟩ (Nat.le_of_ble_eq_true rfl) (mm_vs_b (b := 77) rfl (hp_len dy)) (fun v h' hqq => ?_)
        obtain ⟨rfl, hqe⟩ := hqq; rw [hqe]
        refine mm_I ok_Mo_not 41 0 72 [some (.ref 52), some (.int x), none, none] [.int 0] (hp_SH ++ dy, g3, r3) [] rfl trivial rfl rfl (fun q => False.elim (q rfl)) (fun _ => ?_)
        refine mm_B ok_Mo_not 42 1 (76, [some (.ref 52), some (.int x), none, none], [.int x], (hp_SH ++ dy, g3, r3)) [] rfl trivial ?_
        exact mm_ri rfl (mm_at ok_Mo_not (i := 43) rfl).1 ⟨Nat.le_refl _, Nat.le_refl _⟩ (⟨_, rfl, g3, r3, rfl, hr3, hF3, hb3, hf3⟩)
      · refine mm_cV (as := []) (st := []) (q := 52) cw_Mo_added lk_Mo_237 in_Mo_added sl_Mo_added rfl rfl (mm_at ok_Mo_not (i := 32) rfl).1 (IH f (by omega) 4 o q (.inl (q1, c1)) g r (by decide) (by decide) ho hq h4 hr hx ⟨hml, h28, h29⟩) (by unfold dp_; omega) ⟨by omega, by omega⟩ (Nat.le_of_ble_eq_true rfl) (mm_vs_b (b := 77) rfl (hp_len dy)) (fun v h' hqq => ?_)
        obtain ⟨x, rfl, hpx, g3, r3, hqe, hr3, hF3, hms3⟩ := hqq; rw [hqe]
        have hpx : pv_ sc c1 x := hpx
        obtain ⟨hml3, h328, h329⟩ := hms3
        have hml3 : ml_ B n g3 r3 (ts_ B n q1) := hml3
        have hx3 := mx_fr hx hF3
        have hl1 := ps_len f _ _ _ _ _ hq h4
        have hnx1 := nx_ub B hl1.1.2
        refine mm_B ok_Mo_not 33 3 (60, [some (.ref 52), some (.int x), none, none], [.int 60, .ref 52], (hp_SH ++ dy, g3, r3)) [] rfl trivial ?_
        refine mm_cV (as := [.int 60]) (st := []) (q := 52) cw_Mo_isSign lk_Mo_212 in_Mo_isSign sl_Mo_isSign rfl rfl (mm_at ok_Mo_not (i := 36) rfl).1 (ct_Mo_isSign dy g3 r3 hml3 h329 (x := 60) (by decide)) (by unfold dp_; omega) ⟨by omega, by omega⟩ (Nat.le_of_ble_eq_true rfl) (mm_vs_b (b := 77) rfl (hp_len dy)) (fun v h' hqq => ?_)
        obtain ⟨rfl, hqe⟩ := hqq; rw [hqe]
        rcases h5 with ⟨h5, h6⟩ | ⟨h5, rfl⟩
        · rcases h5 with h5 | h5
          · rw [if_pos (show tk0 B n (ts_ B n q1) = sg_ 60 from h5.trans (by decide))]
            refine mm_I ok_Mo_not 37 0 63 [some (.ref 52), some (.int x), none, none] [.int 1] (hp_SH ++ dy, g3, r3) [] rfl trivial rfl rfl (fun _ => ?_) (fun q => False.elim (absurd q (by decide)))
            have h23 : ¬ tk_ B n q1 = -23 := by rw [h5]; decide
            have h3s := tk_sg (x := 60) (by decide) (show tk0 B n (ts_ B n q1) = sg_ 60 from h5.trans (by decide))
            have htw := hml3.2.2.2.2 h3s.1
            rw [h5] at h6
            refine mm_B ok_Mo_not 44 4 (85, [some (.ref 52), some (.int x), none, none], [.int (lg_cmp (r3.1 52 27) 60)], (hp_SH ++ dy, g3, r3)) [] rfl trivial ?_
            rw [htw, h3s.2]
            refine mm_I ok_Mo_not 48 0 85 [some (.ref 52), some (.int x), none, none] [.int (lg_cmp (60 : Int32).toInt64 60)] (hp_SH ++ dy, g3, r3) [] rfl trivial rfl rfl (fun q => False.elim (absurd (by decide) q)) (fun _ => ?_)
            refine mm_B ok_Mo_not 49 2 (93, [some (.ref 52), some (.int x), none, none], [.int 1], (hp_SH ++ dy, g3, r3)) [] rfl trivial ?_
            refine mm_B ok_Mo_not 52 2 (95, [some (.ref 52), some (.int x), some (.int 1), none], [.ref 52], (hp_SH ++ dy, g3, r3)) [] rfl trivial ?_
            refine mm_cV (as := []) (st := []) (q := 52) cw_Mo_next lk_Mo_187 in_Mo_next sl_Mo_next rfl rfl (mm_at ok_Mo_not (i := 54) rfl).1 (ct_Mo_next dy g3 r3 hx3 hnx1 (ms_nx hml3 h23)) (by unfold dp_; omega) ⟨by omega, by omega⟩ (Nat.le_of_ble_eq_true rfl) (mm_vs_b (b := 77) rfl (hp_len dy)) (fun v h' hqq => ?_)
            obtain ⟨rfl, g4, r4, hqe, hr4, hF4, hml4⟩ := hqq; rw [hqe]
            have hms4 : ms_ B n g4 r4 (ts_ B n (nx_ B n q1)) o := ⟨hml4, (hF4 52 28 rfl).trans h328, (hF4 52 29 rfl).trans h329⟩
            refine mm_B ok_Mo_not 55 1 (99, [some (.ref 52), some (.int x), some (.int 1), none], [.ref 52], (hp_SH ++ dy, g4, r4)) [] rfl trivial ?_
            rcases pb_inv h6 with ⟨e, h7, rfl⟩ | ⟨q2, c2, h7, h8⟩
            · refine mm_cV (as := []) (st := []) (q := 52) cw_Mo_added lk_Mo_237 in_Mo_added sl_Mo_added rfl rfl (mm_at ok_Mo_not (i := 56) rfl).1 (IH f (by omega) 4 o (nx_ B n q1) (.inr e) g4 r4 (by decide) (by decide) ho hnx1 h7 (hr4.trans hr3) (mx_fr hx3 (hF4.mono mf_mg)) hms4) (by unfold dp_; omega) ⟨by omega, by omega⟩ (Nat.le_of_ble_eq_true rfl) (mm_vs_b (b := 77) rfl (hp_len dy)) (fun v h' hqq => ?_)
              obtain ⟨y, rfl, g5, r5, hqe, hr5, hF5, hb5, hf5⟩ := hqq; rw [hqe]
              have hend : ∀ (v : Int32), mq_ dy rs B n sc o g [] (.inr e) (some (.int v)) (hp_SH ++ dy, g5, r5) := fun v => ⟨v, rfl, g5, r5, rfl, hr5, (hF3.tr (hF4.mono mf_mg)).tr hF5, hb5, hf5⟩
              refine mm_I ok_Mo_not 57 2 104 [some (.ref 52), some (.int x), some (.int 1), some (.int y)] [.int 1] (hp_SH ++ dy, g5, r5) [] rfl trivial rfl rfl (fun q => False.elim (absurd q (by decide))) (fun _ => ?_)
              refine mm_I ok_Mo_not 60 2 109 [some (.ref 52), some (.int x), some (.int 1), some (.int y)] [.int y, .int x] (hp_SH ++ dy, g5, r5) [] rfl trivial rfl rfl (fun c1 => ?_) (fun c1 => ?_)
              · refine mm_B ok_Mo_not 69 1 (125, [some (.ref 52), some (.int x), some (.int 1), some (.int y)], [.int 0], (hp_SH ++ dy, g5, r5)) [] rfl trivial ?_
                exact mm_ri rfl (mm_at ok_Mo_not (i := 70) rfl).1 ⟨Nat.le_refl _, Nat.le_refl _⟩ (hend _)
              · refine mm_B ok_Mo_not 63 1 (120, [some (.ref 52), some (.int x), some (.int 1), some (.int y)], [], (hp_SH ++ dy, g5, r5)) [] rfl trivial ?_
                refine mm_B ok_Mo_not 67 2 (125, [some (.ref 52), some (.int x), some (.int 1), some (.int y)], [.int 1], (hp_SH ++ dy, g5, r5)) [] rfl trivial ?_
                exact mm_ri rfl (mm_at ok_Mo_not (i := 70) rfl).1 ⟨Nat.le_refl _, Nat.le_refl _⟩ (hend _)
            · cases h8
              refine mm_cV (as := []) (st := []) (q := 52) cw_Mo_added lk_Mo_237 in_Mo_added sl_Mo_added rfl rfl (mm_at ok_Mo_not (i := 56) rfl).1 (IH f (by omega) 4 o (nx_ B n q1) (.inl (q2, c2)) g4 r4 (by decide) (by decide) ho hnx1 h7 (hr4.trans hr3) (mx_fr hx3 (hF4.mono mf_mg)) hms4) (by unfold dp_; omega) ⟨by omega, by omega⟩ (Nat.le_of_ble_eq_true rfl) (mm_vs_b (b := 77) rfl (hp_len dy)) (fun v h' hqq => ?_)
              obtain ⟨y, rfl, hpy, g5, r5, hqe, hr5, hF5, hms5⟩ := hqq; rw [hqe]
              have hpb := pv_bin hpx (show pv_ sc c2 y from hpy) (s := -10) (by decide) (by decide) (by decide)
              have hend : ∀ (v : Int32), jn_ (-10) x y = v → mq_ dy rs B n sc o g [] (.inl (q2, c1 ++ c2 ++ [-10])) (some (.int v)) (hp_SH ++ dy, g5, r5) := fun v hv => ⟨v, rfl, by rw [← hv]; exact hpb, g5, r5, rfl, hr5, (hF3.tr (hF4.mono mf_mg)).tr hF5, hms5⟩
              have e0 : jn_ (-10) x y = if y ≤ x then 0 else 1 := by unfold jn_; rw [if_neg (by decide), if_neg (by decide), if_pos rfl]
              refine mm_I ok_Mo_not 57 2 104 [some (.ref 52), some (.int x), some (.int 1), some (.int y)] [.int 1] (hp_SH ++ dy, g5, r5) [] rfl trivial rfl rfl (fun q => False.elim (absurd q (by decide))) (fun _ => ?_)
              refine mm_I ok_Mo_not 60 2 109 [some (.ref 52), some (.int x), some (.int 1), some (.int y)] [.int y, .int x] (hp_SH ++ dy, g5, r5) [] rfl trivial rfl rfl (fun c1 => ?_) (fun c1 => ?_)
              · refine mm_B ok_Mo_not 69 1 (125, [some (.ref 52), some (.int x), some (.int 1), some (.int y)], [.int 0], (hp_SH ++ dy, g5, r5)) [] rfl trivial ?_
                exact mm_ri rfl (mm_at ok_Mo_not (i := 70) rfl).1 ⟨Nat.le_refl _, Nat.le_refl _⟩ (hend _ (by rw [e0, if_pos c1]))
              · refine mm_B ok_Mo_not 63 1 (120, [some (.ref 52), some (.int x), some (.int 1), some (.int y)], [], (hp_SH ++ dy, g5, r5)) [] rfl trivial ?_
                refine mm_B ok_Mo_not 67 2 (125, [some (.ref 52), some (.int x), some (.int 1), some (.int y)], [.int 1], (hp_SH ++ dy, g5, r5)) [] rfl trivial ?_
                exact mm_ri rfl (mm_at ok_Mo_not (i := 70) rfl).1 ⟨Nat.le_refl _, Nat.le_refl _⟩ (hend _ (by rw [e0, if_neg c1]))
          · rw [if_neg (show ¬ tk0 B n (ts_ B n q1) = sg_ 60 from fun e => absurd (h5.symm.trans e) (by decide))]
            refine mm_I ok_Mo_not 37 0 63 [some (.ref 52), some (.int x), none, none] [.int 0] (hp_SH ++ dy, g3, r3) [] rfl trivial rfl rfl (fun q => False.elim (q rfl)) (fun _ => ?_)
            refine mm_B ok_Mo_not 38 2 (69, [some (.ref 52), some (.int x), none, none], [.int 61, .ref 52], (hp_SH ++ dy, g3, r3)) [] rfl trivial ?_
            refine mm_cV (as := [.int 61]) (st := []) (q := 52) cw_Mo_isSign lk_Mo_212 in_Mo_isSign sl_Mo_isSign rfl rfl (mm_at ok_Mo_not (i := 40) rfl).1 (ct_Mo_isSign dy g3 r3 hml3 h329 (x := 61) (by decide)) (by unfold dp_; omega) ⟨by omega, by omega⟩ (Nat.le_of_ble_eq_true rfl) (mm_vs_b (b := 77) rfl (hp_len dy)) (fun v h' hqq => ?_)
            obtain ⟨rfl, hqe⟩ := hqq; rw [hqe]
            rw [if_pos (show tk0 B n (ts_ B n q1) = sg_ 61 from h5.trans (by decide))]
            refine mm_I ok_Mo_not 41 0 72 [some (.ref 52), some (.int x), none, none] [.int 1] (hp_SH ++ dy, g3, r3) [] rfl trivial rfl rfl (fun _ => ?_) (fun q => False.elim (absurd q (by decide)))
            have h23 : ¬ tk_ B n q1 = -23 := by rw [h5]; decide
            have h3s := tk_sg (x := 61) (by decide) (show tk0 B n (ts_ B n q1) = sg_ 61 from h5.trans (by decide))
            have htw := hml3.2.2.2.2 h3s.1
            rw [h5] at h6
            refine mm_B ok_Mo_not 44 4 (85, [some (.ref 52), some (.int x), none, none], [.int (lg_cmp (r3.1 52 27) 60)], (hp_SH ++ dy, g3, r3)) [] rfl trivial ?_
            rw [htw, h3s.2]
            refine mm_I ok_Mo_not 48 0 85 [some (.ref 52), some (.int x), none, none] [.int (lg_cmp (61 : Int32).toInt64 60)] (hp_SH ++ dy, g3, r3) [] rfl trivial rfl rfl (fun _ => ?_) (fun q => False.elim (absurd q (by decide)))
            refine mm_B ok_Mo_not 51 3 (95, [some (.ref 52), some (.int x), some (.int 0), none], [.ref 52], (hp_SH ++ dy, g3, r3)) [] rfl trivial ?_
            refine mm_cV (as := []) (st := []) (q := 52) cw_Mo_next lk_Mo_187 in_Mo_next sl_Mo_next rfl rfl (mm_at ok_Mo_not (i := 54) rfl).1 (ct_Mo_next dy g3 r3 hx3 hnx1 (ms_nx hml3 h23)) (by unfold dp_; omega) ⟨by omega, by omega⟩ (Nat.le_of_ble_eq_true rfl) (mm_vs_b (b := 77) rfl (hp_len dy)) (fun v h' hqq => ?_)
            obtain ⟨rfl, g4, r4, hqe, hr4, hF4, hml4⟩ := hqq; rw [hqe]
            have hms4 : ms_ B n g4 r4 (ts_ B n (nx_ B n q1)) o := ⟨hml4, (hF4 52 28 rfl).trans h328, (hF4 52 29 rfl).trans h329⟩
            refine mm_B ok_Mo_not 55 1 (99, [some (.ref 52), some (.int x), some (.int 0), none], [.ref 52], (hp_SH ++ dy, g4, r4)) [] rfl trivial ?_
            rcases pb_inv h6 with ⟨e, h7, rfl⟩ | ⟨q2, c2, h7, h8⟩
            · refine mm_cV (as := []) (st := []) (q := 52) cw_Mo_added lk_Mo_237 in_Mo_added sl_Mo_added rfl rfl (mm_at ok_Mo_not (i := 56) rfl).1 (IH f (by omega) 4 o (nx_ B n q1) (.inr e) g4 r4 (by decide) (by decide) ho hnx1 h7 (hr4.trans hr3) (mx_fr hx3 (hF4.mono mf_mg)) hms4) (by unfold dp_; omega) ⟨by omega, by omega⟩ (Nat.le_of_ble_eq_true rfl) (mm_vs_b (b := 77) rfl (hp_len dy)) (fun v h' hqq => ?_)
              obtain ⟨y, rfl, g5, r5, hqe, hr5, hF5, hb5, hf5⟩ := hqq; rw [hqe]
              have hend : ∀ (v : Int32), mq_ dy rs B n sc o g [] (.inr e) (some (.int v)) (hp_SH ++ dy, g5, r5) := fun v => ⟨v, rfl, g5, r5, rfl, hr5, (hF3.tr (hF4.mono mf_mg)).tr hF5, hb5, hf5⟩
              refine mm_I ok_Mo_not 57 2 104 [some (.ref 52), some (.int x), some (.int 0), some (.int y)] [.int 0] (hp_SH ++ dy, g5, r5) [] rfl trivial rfl rfl (fun _ => ?_) (fun q => False.elim (q rfl))
              refine mm_I ok_Mo_not 64 2 117 [some (.ref 52), some (.int x), some (.int 0), some (.int y)] [.int y, .int x] (hp_SH ++ dy, g5, r5) [] rfl trivial rfl rfl (fun c1 => ?_) (fun c1 => ?_)
              · refine mm_B ok_Mo_not 69 1 (125, [some (.ref 52), some (.int x), some (.int 0), some (.int y)], [.int 0], (hp_SH ++ dy, g5, r5)) [] rfl trivial ?_
                exact mm_ri rfl (mm_at ok_Mo_not (i := 70) rfl).1 ⟨Nat.le_refl _, Nat.le_refl _⟩ (hend _)
              · refine mm_B ok_Mo_not 67 2 (125, [some (.ref 52), some (.int x), some (.int 0), some (.int y)], [.int 1], (hp_SH ++ dy, g5, r5)) [] rfl trivial ?_
                exact mm_ri rfl (mm_at ok_Mo_not (i := 70) rfl).1 ⟨Nat.le_refl _, Nat.le_refl _⟩ (hend _)
            · cases h8
              refine mm_cV (as := []) (st := []) (q := 52) cw_Mo_added lk_Mo_237 in_Mo_added sl_Mo_added rfl rfl (mm_at ok_Mo_not (i := 56) rfl).1 (IH f (by omega) 4 o (nx_ B n q1) (.inl (q2, c2)) g4 r4 (by decide) (by decide) ho hnx1 h7 (hr4.trans hr3) (mx_fr hx3 (hF4.mono mf_mg)) hms4) (by unfold dp_; omega) ⟨by omega, by omega⟩ (Nat.le_of_ble_eq_true rfl) (mm_vs_b (b := 77) rfl (hp_len dy)) (fun v h' hqq => ?_)
              obtain ⟨y, rfl, hpy, g5, r5, hqe, hr5, hF5, hms5⟩ := hqq; rw [hqe]
              have hpb := pv_bin hpx (show pv_ sc c2 y from hpy) (s := -11) (by decide) (by decide) (by decide)
              have hend : ∀ (v : Int32), jn_ (-11) x y = v → mq_ dy rs B n sc o g [] (.inl (q2, c1 ++ c2 ++ [-11])) (some (.int v)) (hp_SH ++ dy, g5, r5) := fun v hv => ⟨v, rfl, by rw [← hv]; exact hpb, g5, r5, rfl, hr5, (hF3.tr (hF4.mono mf_mg)).tr hF5, hms5⟩
              have e0 : jn_ (-11) x y = if x = y then 1 else 0 := by unfold jn_; rw [if_neg (by decide), if_neg (by decide), if_neg (by decide), if_pos rfl]
              refine mm_I ok_Mo_not 57 2 104 [some (.ref 52), some (.int x), some (.int 0), some (.int y)] [.int 0] (hp_SH ++ dy, g5, r5) [] rfl trivial rfl rfl (fun _ => ?_) (fun q => False.elim (q rfl))
              refine mm_I ok_Mo_not 64 2 117 [some (.ref 52), some (.int x), some (.int 0), some (.int y)] [.int y, .int x] (hp_SH ++ dy, g5, r5) [] rfl trivial rfl rfl (fun c1 => ?_) (fun c1 => ?_)
              · refine mm_B ok_Mo_not 69 1 (125, [some (.ref 52), some (.int x), some (.int 0), some (.int y)], [.int 0], (hp_SH ++ dy, g5, r5)) [] rfl trivial ?_
                exact mm_ri rfl (mm_at ok_Mo_not (i := 70) rfl).1 ⟨Nat.le_refl _, Nat.le_refl _⟩ (hend _ (by rw [e0, if_neg c1]))
              · refine mm_B ok_Mo_not 67 2 (125, [some (.ref 52), some (.int x), some (.int 0), some (.int y)], [.int 1], (hp_SH ++ dy, g5, r5)) [] rfl trivial ?_
                exact mm_ri rfl (mm_at ok_Mo_not (i := 70) rfl).1 ⟨Nat.le_refl _, Nat.le_refl _⟩ (hend _ (by rw [e0, if_pos c1]))
        · rw [if_neg (show ¬ tk0 B n (ts_ B n q1) = sg_ 60 from fun e => h5 (Or.inl (show tk_ B n q1 = -10 from e.trans (by decide))))]
          refine mm_I ok_Mo_not 37 0 63 [some (.ref 52), some (.int x), none, none] [.int 0] (hp_SH ++ dy, g3, r3) [] rfl trivial rfl rfl (fun q => False.elim (q rfl)) (fun _ => ?_)
          refine mm_B ok_Mo_not 38 2 (69, [some (.ref 52), some (.int x), none, none], [.int 61, .ref 52], (hp_SH ++ dy, g3, r3)) [] rfl trivial ?_
          refine mm_cV (as := [.int 61]) (st := []) (q := 52) cw_Mo_isSign lk_Mo_212 in_Mo_isSign sl_Mo_isSign rfl rfl (mm_at ok_Mo_not (i := 40) rfl).1 (ct_Mo_isSign dy g3 r3 hml3 h329 (x := 61) (by decide)) (by unfold dp_; omega) ⟨by omega, by omega⟩ (Nat.le_of_ble_eq_true rfl) (mm_vs_b (b := 77) rfl (hp_len dy)) (fun v h' hqq => ?_)
          obtain ⟨rfl, hqe⟩ := hqq; rw [hqe]
          rw [if_neg (show ¬ tk0 B n (ts_ B n q1) = sg_ 61 from fun e => h5 (Or.inr (show tk_ B n q1 = -11 from e.trans (by decide))))]
          refine mm_I ok_Mo_not 41 0 72 [some (.ref 52), some (.int x), none, none] [.int 0] (hp_SH ++ dy, g3, r3) [] rfl trivial rfl rfl (fun q => False.elim (q rfl)) (fun _ => ?_)
          refine mm_B ok_Mo_not 42 1 (76, [some (.ref 52), some (.int x), none, none], [.int x], (hp_SH ++ dy, g3, r3)) [] rfl trivial ?_
          exact mm_ri rfl (mm_at ok_Mo_not (i := 43) rfl).1 ⟨Nat.le_refl _, Nat.le_refl _⟩ (⟨_, rfl, hpx, g3, r3, rfl, hr3, hF3, hml3, h328, h329⟩)
theorem mr_c_atom (dy : List mm_Sh) (rs : Nat × (Nat → Int32)) {B : Nat → Int32} {n t : Nat} {sc : Nat → Int32} {f : Nat} (IH : ∀ f', f' < f + 1 → mr_P dy rs B n t sc f') {o q : Nat} {res : (Nat × List Int32) ⊕ Nat} {g : Nat → Nat → Int32} {r : (Nat → Nat → Int64) × Nat × (Nat → Int32)} (ho : o ≤ 5) (hq : q ≤ n) (hps : ps_ B n (f + 1) 6 o q = some res) (hr : r.2 = rs) (hx : mx_ g t n B sc) (hms : ms_ B n g r (ts_ B n q) o) : mm_Ct (dp_ 6 o) M_Mo_atom [.ref 52] (hp_SH ++ dy, g, r) 0 0 (mq_ dy rs B n sc o g [] res) := by
  refine mm_start pl_Mo (Nat.le_of_ble_eq_true rfl) ?_
  obtain ⟨hml, h28, h29⟩ := hms
  have hnx := nx_ub B hq
  have hsk := mk_cases B n (ts_ B n q)
  refine mm_B ok_Mo_atom 0 4 (5, [some (.ref 52), some (.int 0)], [.int 45, .ref 52], (hp_SH ++ dy, g, r)) [] rfl trivial ?_
  refine mm_cV (as := [.int 45]) (st := []) (q := 52) cw_Mo_isSign lk_Mo_212 in_Mo_isSign sl_Mo_isSign rfl rfl (mm_at ok_Mo_atom (i := 4) rfl).1 (ct_Mo_isSign dy g r hml h29 (x := 45) (by decide)) (by unfold dp_; omega) ⟨by omega, by omega⟩ (Nat.le_of_ble_eq_true rfl) (mm_vs_b (b := 77) rfl (hp_len dy)) (fun v h' hqq => ?_)
  obtain ⟨rfl, hqe⟩ := hqq; rw [hqe]
  rcases ps_6 hps with ⟨h1, rfl⟩ | ⟨h0, h1, h2⟩ | ⟨h0, h0', h1, h2⟩ | ⟨h0, h0', h1, rfl⟩
  · have h23 : ¬ tk_ B n q = -23 := fun e => absurd h1 (by rw [e]; decide)
    have hno : ∀ v : Int32, v < -6 → ¬ tk0 B n (ts_ B n q) = v := fun v hv e => absurd hv (Int32.not_lt.mpr (by rw [← e]; exact h1))
    rw [if_neg (hno (sg_ 45) (by decide))]
    refine mm_I ok_Mo_atom 5 0 8 [some (.ref 52), some (.int 0)] [.int 0] (hp_SH ++ dy, g, r) [] rfl trivial rfl rfl (fun _ => ?_) (fun q => False.elim (q rfl))
    refine mm_B ok_Mo_atom 20 2 (40, [some (.ref 52), some (.int 0)], [.int 40, .ref 52], (hp_SH ++ dy, g, r)) [] rfl trivial ?_
    refine mm_cV (as := [.int 40]) (st := []) (q := 52) cw_Mo_isSign lk_Mo_212 in_Mo_isSign sl_Mo_isSign rfl rfl (mm_at ok_Mo_atom (i := 22) rfl).1 (ct_Mo_isSign dy g r hml h29 (x := 40) (by decide)) (by unfold dp_; omega) ⟨by omega, by omega⟩ (Nat.le_of_ble_eq_true rfl) (mm_vs_b (b := 77) rfl (hp_len dy)) (fun v h' hqq => ?_)
    obtain ⟨rfl, hqe⟩ := hqq; rw [hqe]
    rw [if_neg (hno (sg_ 40) (by decide))]
    refine mm_I ok_Mo_atom 23 0 43 [some (.ref 52), some (.int 0)] [.int 0] (hp_SH ++ dy, g, r) [] rfl trivial rfl rfl (fun _ => ?_) (fun q => False.elim (q rfl))
    refine mm_B ok_Mo_atom 48 2 (99, [some (.ref 52), some (.int 0)], [.int (g 52 29)], (hp_SH ++ dy, g, r)) [] rfl trivial ?_
    rw [h29]
    refine mm_I ok_Mo_atom 50 0 99 [some (.ref 52), some (.int 0)] [.int 0] (hp_SH ++ dy, g, r) [] rfl trivial rfl rfl (fun q => False.elim (absurd rfl q)) (fun _ => ?_)
    refine mm_B ok_Mo_atom 51 3 (107, [some (.ref 52), some (.int 0)], [.int 2, .int (g 52 25)], (hp_SH ++ dy, g, r)) [] rfl trivial ?_
    rw [hml.2.1]
    rcases tk_lit (sc := sc) (show -6 ≤ tk0 B n (ts_ B n q) from h1) with ⟨hk, hp⟩ | ⟨hk, i, hi, hki, hp⟩
    · have hw := hml.2.2.2.1 hk
      rw [hk]
      refine mm_I ok_Mo_atom 54 0 107 [some (.ref 52), some (.int 0)] [.int 2, .int 2] (hp_SH ++ dy, g, r) [] rfl trivial rfl rfl (fun q => False.elim (absurd rfl q)) (fun _ => ?_)
      refine mm_B ok_Mo_atom 55 5 (117, [some (.ref 52), some (.int (r.1 52 27).toInt32)], [.ref 52], (hp_SH ++ dy, g, r)) [] rfl trivial ?_
      rw [hw]
      refine mm_cV (as := []) (st := []) (q := 52) cw_Mo_next lk_Mo_187 in_Mo_next sl_Mo_next rfl rfl (mm_at ok_Mo_atom (i := 60) rfl).1 (ct_Mo_next dy g r hx hnx (ms_nx hml h23)) (by unfold dp_; omega) ⟨by omega, by omega⟩ (Nat.le_of_ble_eq_true rfl) (mm_vs_b (b := 77) rfl (hp_len dy)) (fun v h' hqq => ?_)
      obtain ⟨rfl, g2, r2, hqe, hr2, hF2, hml2⟩ := hqq; rw [hqe]
      refine mm_B ok_Mo_atom 61 1 (161, [some (.ref 52), some (.int (tk0 B n (ts_ B n q)))], [], (hp_SH ++ dy, g2, r2)) [] rfl trivial ?_
      refine mm_B ok_Mo_atom 80 1 (162, [some (.ref 52), some (.int (tk0 B n (ts_ B n q)))], [.int (tk0 B n (ts_ B n q))], (hp_SH ++ dy, g2, r2)) [] rfl trivial ?_
      exact mm_ri rfl (mm_at ok_Mo_atom (i := 81) rfl).1 ⟨Nat.le_refl _, Nat.le_refl _⟩ (⟨_, rfl, hp, g2, r2, rfl, hr2.trans hr, hF2.mono mf_mg, hml2, (hF2 52 28 rfl).trans h28, (hF2 52 29 rfl).trans h29⟩)
    · rw [hk]
      refine mm_I ok_Mo_atom 54 0 107 [some (.ref 52), some (.int 0)] [.int 2, .int 1] (hp_SH ++ dy, g, r) [] rfl trivial rfl rfl (fun _ => ?_) (fun q => False.elim (absurd q (by decide)))
      refine mm_B ok_Mo_atom 62 2 (127, [some (.ref 52), some (.int 0)], [.int (g 52 29)], (hp_SH ++ dy, g, r)) [] rfl trivial ?_
      rw [h29]
      refine mm_I ok_Mo_atom 64 0 127 [some (.ref 52), some (.int 0)] [.int 0] (hp_SH ++ dy, g, r) [] rfl trivial rfl rfl (fun q => False.elim (absurd rfl q)) (fun _ => ?_)
      refine mm_B ok_Mo_atom 65 3 (135, [some (.ref 52), some (.int 0)], [.int 1, .int (g 52 25)], (hp_SH ++ dy, g, r)) [] rfl trivial ?_
      rw [hml.2.1]
      rw [hk]
      refine mm_I ok_Mo_atom 68 0 135 [some (.ref 52), some (.int 0)] [.int 1, .int 1] (hp_SH ++ dy, g, r) [] rfl trivial rfl rfl (fun q => False.elim (absurd rfl q)) (fun _ => ?_)
      refine mm_B ok_Mo_atom 69 1 (139, [some (.ref 52), some (.int 0)], [.ref 52], (hp_SH ++ dy, g, r)) [] rfl trivial ?_
      refine mm_cV (as := []) (st := []) (q := 52) cw_Mo_name lk_Mo_226 in_Mo_name sl_Mo_name rfl rfl (mm_at ok_Mo_atom (i := 70) rfl).1 (ct_Mo_name dy g r hx hml h29 hi hki) (by unfold dp_; omega) ⟨by omega, by omega⟩ (Nat.le_of_ble_eq_true rfl) (mm_vs_b (b := 77) rfl (hp_len dy)) (fun v h' hqq => ?_)
      obtain ⟨rfl, hqe⟩ := hqq; rw [hqe]
      refine mm_B ok_Mo_atom 71 3 (147, [some (.ref 52), some (.int (sc i))], [.int (g 52 29)], (hp_SH ++ dy, g, r)) [] rfl trivial ?_
      rw [h29]
      refine mm_I ok_Mo_atom 74 0 147 [some (.ref 52), some (.int (sc i))] [.int 0] (hp_SH ++ dy, g, r) [] rfl trivial rfl rfl (fun q => False.elim (absurd rfl q)) (fun _ => ?_)
      refine mm_B ok_Mo_atom 75 1 (151, [some (.ref 52), some (.int (sc i))], [.ref 52], (hp_SH ++ dy, g, r)) [] rfl trivial ?_
      refine mm_cV (as := []) (st := []) (q := 52) cw_Mo_next lk_Mo_187 in_Mo_next sl_Mo_next rfl rfl (mm_at ok_Mo_atom (i := 76) rfl).1 (ct_Mo_next dy g r hx hnx (ms_nx hml h23)) (by unfold dp_; omega) ⟨by omega, by omega⟩ (Nat.le_of_ble_eq_true rfl) (mm_vs_b (b := 77) rfl (hp_len dy)) (fun v h' hqq => ?_)
      obtain ⟨rfl, g2, r2, hqe, hr2, hF2, hml2⟩ := hqq; rw [hqe]
      refine mm_B ok_Mo_atom 77 1 (161, [some (.ref 52), some (.int (sc i))], [], (hp_SH ++ dy, g2, r2)) [] rfl trivial ?_
      refine mm_B ok_Mo_atom 80 1 (162, [some (.ref 52), some (.int (sc i))], [.int (sc i)], (hp_SH ++ dy, g2, r2)) [] rfl trivial ?_
      exact mm_ri rfl (mm_at ok_Mo_atom (i := 81) rfl).1 ⟨Nat.le_refl _, Nat.le_refl _⟩ (⟨_, rfl, hp, g2, r2, rfl, hr2.trans hr, hF2.mono mf_mg, hml2, (hF2 52 28 rfl).trans h28, (hF2 52 29 rfl).trans h29⟩)
  · have h23 : ¬ tk_ B n q = -23 := by rw [h1.1]; decide
    rw [if_pos (show tk0 B n (ts_ B n q) = sg_ 45 from h1.1.trans (by decide))]
    refine mm_I ok_Mo_atom 5 0 8 [some (.ref 52), some (.int 0)] [.int 1] (hp_SH ++ dy, g, r) [] rfl trivial rfl rfl (fun q => False.elim (absurd q (by decide))) (fun _ => ?_)
    refine mm_B ok_Mo_atom 6 1 (12, [some (.ref 52), some (.int 0)], [.ref 52], (hp_SH ++ dy, g, r)) [] rfl trivial ?_
    refine mm_cV (as := []) (st := []) (q := 52) cw_Mo_opens lk_Mo_215 in_Mo_opens sl_Mo_opens rfl rfl (mm_at ok_Mo_atom (i := 7) rfl).1 (ct_Mo_opens dy g r hx ⟨hml, h28, h29⟩ hq h1.2 h23) (by unfold dp_; omega) ⟨by omega, by omega⟩ (Nat.le_of_ble_eq_true rfl) (mm_vs_b (b := 77) rfl (hp_len dy)) (fun v h' hqq => ?_)
    obtain ⟨rfl, g2, r2, hqe, hr2, hF2, hms2⟩ := hqq; rw [hqe]
    refine mm_I ok_Mo_atom 8 0 15 [some (.ref 52), some (.int 0)] [.int 1] (hp_SH ++ dy, g2, r2) [] rfl trivial rfl rfl (fun q => False.elim (absurd q (by decide))) (fun _ => ?_)
    refine mm_B ok_Mo_atom 9 1 (19, [some (.ref 52), some (.int 0)], [.ref 52], (hp_SH ++ dy, g2, r2)) [] rfl trivial ?_
    rcases pb_inv h2 with ⟨e, h4, rfl⟩ | ⟨q2, c2, h4, h5⟩
    · refine mm_cV (as := []) (st := []) (q := 52) cw_Mo_atom lk_Mo_219 in_Mo_atom sl_Mo_atom rfl rfl (mm_at ok_Mo_atom (i := 10) rfl).1 (IH f (by omega) 6 (o + 1) (nx_ B n q) (.inr e) g2 r2 (by decide) (by decide) (by omega) hnx h4 (hr2.trans hr) (mx_fr hx hF2) hms2) (by unfold dp_; omega) ⟨by omega, by omega⟩ (Nat.le_of_ble_eq_true rfl) (mm_vs_b (b := 77) rfl (hp_len dy)) (fun v h' hqq => ?_)
      obtain ⟨x, rfl, g3, r3, hqe, hr3, hF3, hb3, hf3⟩ := hqq; rw [hqe]
      refine mm_B ok_Mo_atom 11 9 (161, [some (.ref 52), some (.int (-x))], [], (hp_SH ++ dy, mm_up g3 52 28 ((g3 52 28) - 1), r3)) [] rfl trivial ?_
      refine mm_B ok_Mo_atom 80 1 (162, [some (.ref 52), some (.int (-x))], [.int (-x)], (hp_SH ++ dy, mm_up g3 52 28 ((g3 52 28) - 1), r3)) [] rfl trivial ?_
      exact mm_ri rfl (mm_at ok_Mo_atom (i := 81) rfl).1 ⟨Nat.le_refl _, Nat.le_refl _⟩ (⟨_, rfl, _, r3, rfl, hr3, (hF2.tr hF3).up _ rfl, hb3, hf3⟩)
    · cases h5
      refine mm_cV (as := []) (st := []) (q := 52) cw_Mo_atom lk_Mo_219 in_Mo_atom sl_Mo_atom rfl rfl (mm_at ok_Mo_atom (i := 10) rfl).1 (IH f (by omega) 6 (o + 1) (nx_ B n q) (.inl (q2, c2)) g2 r2 (by decide) (by decide) (by omega) hnx h4 (hr2.trans hr) (mx_fr hx hF2) hms2) (by unfold dp_; omega) ⟨by omega, by omega⟩ (Nat.le_of_ble_eq_true rfl) (mm_vs_b (b := 77) rfl (hp_len dy)) (fun v h' hqq => ?_)
      obtain ⟨x, rfl, hpx, g3, r3, hqe, hr3, hF3, hms3⟩ := hqq; rw [hqe]
      have h328 : g3 52 28 = nI (o + 1) := hms3.2.1
      have hpu := (pv_un (show pv_ sc c2 x from hpx)).2
      refine mm_B ok_Mo_atom 11 9 (161, [some (.ref 52), some (.int (-x))], [], (hp_SH ++ dy, mm_up g3 52 28 ((g3 52 28) - 1), r3)) [] rfl trivial ?_
      refine mm_B ok_Mo_atom 80 1 (162, [some (.ref 52), some (.int (-x))], [.int (-x)], (hp_SH ++ dy, mm_up g3 52 28 ((g3 52 28) - 1), r3)) [] rfl trivial ?_
      rw [h328, nI_pred]
      exact mm_ri rfl (mm_at ok_Mo_atom (i := 81) rfl).1 ⟨Nat.le_refl _, Nat.le_refl _⟩ (⟨_, rfl, hpu, _, r3, rfl, hr3, (hF2.tr hF3).up _ rfl, ms_up hms3⟩)
  · have h23 : ¬ tk_ B n q = -23 := by rw [h1.1]; decide
    rw [if_neg (show ¬ tk0 B n (ts_ B n q) = sg_ 45 from fun e => absurd (h1.1.symm.trans e) (by decide))]
    refine mm_I ok_Mo_atom 5 0 8 [some (.ref 52), some (.int 0)] [.int 0] (hp_SH ++ dy, g, r) [] rfl trivial rfl rfl (fun _ => ?_) (fun q => False.elim (q rfl))
    refine mm_B ok_Mo_atom 20 2 (40, [some (.ref 52), some (.int 0)], [.int 40, .ref 52], (hp_SH ++ dy, g, r)) [] rfl trivial ?_
    refine mm_cV (as := [.int 40]) (st := []) (q := 52) cw_Mo_isSign lk_Mo_212 in_Mo_isSign sl_Mo_isSign rfl rfl (mm_at ok_Mo_atom (i := 22) rfl).1 (ct_Mo_isSign dy g r hml h29 (x := 40) (by decide)) (by unfold dp_; omega) ⟨by omega, by omega⟩ (Nat.le_of_ble_eq_true rfl) (mm_vs_b (b := 77) rfl (hp_len dy)) (fun v h' hqq => ?_)
    obtain ⟨rfl, hqe⟩ := hqq; rw [hqe]
    rw [if_pos (show tk0 B n (ts_ B n q) = sg_ 40 from h1.1.trans (by decide))]
    refine mm_I ok_Mo_atom 23 0 43 [some (.ref 52), some (.int 0)] [.int 1] (hp_SH ++ dy, g, r) [] rfl trivial rfl rfl (fun q => False.elim (absurd q (by decide))) (fun _ => ?_)
    refine mm_B ok_Mo_atom 24 1 (47, [some (.ref 52), some (.int 0)], [.ref 52], (hp_SH ++ dy, g, r)) [] rfl trivial ?_
    refine mm_cV (as := []) (st := []) (q := 52) cw_Mo_opens lk_Mo_215 in_Mo_opens sl_Mo_opens rfl rfl (mm_at ok_Mo_atom (i := 25) rfl).1 (ct_Mo_opens dy g r hx ⟨hml, h28, h29⟩ hq h1.2 h23) (by unfold dp_; omega) ⟨by omega, by omega⟩ (Nat.le_of_ble_eq_true rfl) (mm_vs_b (b := 77) rfl (hp_len dy)) (fun v h' hqq => ?_)
    obtain ⟨rfl, g2, r2, hqe, hr2, hF2, hms2⟩ := hqq; rw [hqe]
    refine mm_I ok_Mo_atom 26 0 50 [some (.ref 52), some (.int 0)] [.int 1] (hp_SH ++ dy, g2, r2) [] rfl trivial rfl rfl (fun q => False.elim (absurd q (by decide))) (fun _ => ?_)
    refine mm_B ok_Mo_atom 27 1 (54, [some (.ref 52), some (.int 0)], [.ref 52], (hp_SH ++ dy, g2, r2)) [] rfl trivial ?_
    rcases h2 with ⟨e, h4, rfl⟩ | ⟨q2, c2, h4, h5⟩
    · refine mm_cV (as := []) (st := []) (q := 52) cw_Mo_either lk_Mo_223 in_Mo_either sl_Mo_either rfl rfl (mm_at ok_Mo_atom (i := 28) rfl).1 (IH f (by omega) 0 (o + 1) (nx_ B n q) (.inr e) g2 r2 (by decide) (by decide) (by omega) hnx h4 (hr2.trans hr) (mx_fr hx hF2) hms2) (by unfold dp_; omega) ⟨by omega, by omega⟩ (Nat.le_of_ble_eq_true rfl) (mm_vs_b (b := 77) rfl (hp_len dy)) (fun v h' hqq => ?_)
      obtain ⟨x, rfl, g3, r3, hqe, hr3, hF3, hb3, hf3⟩ := hqq; rw [hqe]
      refine mm_B ok_Mo_atom 29 3 (61, [some (.ref 52), some (.int x)], [.int 41, .ref 52], (hp_SH ++ dy, g3, r3)) [] rfl trivial ?_
      refine mm_cV (as := [.int 41]) (st := []) (q := 52) cw_Mo_isSign lk_Mo_212 in_Mo_isSign sl_Mo_isSign rfl rfl (mm_at ok_Mo_atom (i := 32) rfl).1 (ct_Mo_isSign1 dy g3 r3 hb3 41) (by unfold dp_; omega) ⟨by omega, by omega⟩ (Nat.le_of_ble_eq_true rfl) (mm_vs_b (b := 77) rfl (hp_len dy)) (fun v h' hqq => ?_)
      obtain ⟨rfl, hqe⟩ := hqq; rw [hqe]
      refine mm_I ok_Mo_atom 33 0 64 [some (.ref 52), some (.int x)] [.int 0] (hp_SH ++ dy, g3, r3) [] rfl trivial rfl rfl (fun q => False.elim (q rfl)) (fun _ => ?_)
      refine mm_B ok_Mo_atom 34 1 (68, [some (.ref 52), some (.int x)], [.ref 52], (hp_SH ++ dy, g3, r3)) [] rfl trivial ?_
      refine mm_cV (as := []) (st := []) (q := 52) cw_Mo_fail lk_Mo_184 in_Mo_fail sl_Mo_fail rfl rfl (mm_at ok_Mo_atom (i := 35) rfl).1 (ct_Mo_fail1 dy g3 r3 hb3) (by unfold dp_; omega) ⟨by omega, by omega⟩ (Nat.le_of_ble_eq_true rfl) (mm_vs_b (b := 77) rfl (hp_len dy)) (fun v h' hqq => ?_)
      obtain ⟨rfl, hqe⟩ := hqq; rw [hqe]
      refine mm_B ok_Mo_atom 36 8 (85, [some (.ref 52), some (.int x)], [.int (g3 52 29)], (hp_SH ++ dy, mm_up g3 52 28 ((g3 52 28) - 1), r3)) [] rfl trivial ?_
      have hb4 : (mm_up g3 52 28 (g3 52 28 - 1)) 52 29 = 1 := hb3
      rw [hb3]
      refine mm_I ok_Mo_atom 44 0 85 [some (.ref 52), some (.int x)] [.int 1] (hp_SH ++ dy, mm_up g3 52 28 ((g3 52 28) - 1), r3) [] rfl trivial rfl rfl (fun _ => ?_) (fun q => False.elim (absurd q (by decide)))
      refine mm_B ok_Mo_atom 80 1 (162, [some (.ref 52), some (.int x)], [.int x], (hp_SH ++ dy, mm_up g3 52 28 ((g3 52 28) - 1), r3)) [] rfl trivial ?_
      exact mm_ri rfl (mm_at ok_Mo_atom (i := 81) rfl).1 ⟨Nat.le_refl _, Nat.le_refl _⟩ (⟨_, rfl, _, r3, rfl, hr3, (hF2.tr hF3).up _ rfl, hb3, hf3⟩)
    · refine mm_cV (as := []) (st := []) (q := 52) cw_Mo_either lk_Mo_223 in_Mo_either sl_Mo_either rfl rfl (mm_at ok_Mo_atom (i := 28) rfl).1 (IH f (by omega) 0 (o + 1) (nx_ B n q) (.inl (q2, c2)) g2 r2 (by decide) (by decide) (by omega) hnx h4 (hr2.trans hr) (mx_fr hx hF2) hms2) (by unfold dp_; omega) ⟨by omega, by omega⟩ (Nat.le_of_ble_eq_true rfl) (mm_vs_b (b := 77) rfl (hp_len dy)) (fun v h' hqq => ?_)
      obtain ⟨x, rfl, hpx, g3, r3, hqe, hr3, hF3, hms3⟩ := hqq; rw [hqe]
      obtain ⟨hml3, h328, h329⟩ := hms3
      have hml3 : ml_ B n g3 r3 (ts_ B n q2) := hml3
      have hl2 := ps_len f _ _ _ _ _ hnx h4
      have hF23 := hF2.tr hF3
      refine mm_B ok_Mo_atom 29 3 (61, [some (.ref 52), some (.int x)], [.int 41, .ref 52], (hp_SH ++ dy, g3, r3)) [] rfl trivial ?_
      refine mm_cV (as := [.int 41]) (st := []) (q := 52) cw_Mo_isSign lk_Mo_212 in_Mo_isSign sl_Mo_isSign rfl rfl (mm_at ok_Mo_atom (i := 32) rfl).1 (ct_Mo_isSign dy g3 r3 hml3 h329 (x := 41) (by decide)) (by unfold dp_; omega) ⟨by omega, by omega⟩ (Nat.le_of_ble_eq_true rfl) (mm_vs_b (b := 77) rfl (hp_len dy)) (fun v h' hqq => ?_)
      obtain ⟨rfl, hqe⟩ := hqq; rw [hqe]
      rcases h5 with ⟨h5, rfl⟩ | ⟨h5, rfl⟩
      · have h23' : ¬ tk_ B n q2 = -23 := by rw [h5]; decide
        rw [if_pos (show tk0 B n (ts_ B n q2) = sg_ 41 from h5.trans (by decide))]
        refine mm_I ok_Mo_atom 33 0 64 [some (.ref 52), some (.int x)] [.int 1] (hp_SH ++ dy, g3, r3) [] rfl trivial rfl rfl (fun _ => ?_) (fun q => False.elim (absurd q (by decide)))
        refine mm_B ok_Mo_atom 36 8 (85, [some (.ref 52), some (.int x)], [.int (g3 52 29)], (hp_SH ++ dy, mm_up g3 52 28 ((g3 52 28) - 1), r3)) [] rfl trivial ?_
        rw [h328, nI_pred]
        rw [h329]
        refine mm_I ok_Mo_atom 44 0 85 [some (.ref 52), some (.int x)] [.int 0] (hp_SH ++ dy, mm_up g3 52 28 (nI o), r3) [] rfl trivial rfl rfl (fun q => False.elim (absurd rfl q)) (fun _ => ?_)
        refine mm_B ok_Mo_atom 45 1 (89, [some (.ref 52), some (.int x)], [.ref 52], (hp_SH ++ dy, mm_up g3 52 28 (nI o), r3)) [] rfl trivial ?_
        have hF4 : fr_ mf_ g (mm_up g3 52 28 (nI o)) := hF23.up _ rfl
        refine mm_cV (as := []) (st := []) (q := 52) cw_Mo_next lk_Mo_187 in_Mo_next sl_Mo_next rfl rfl (mm_at ok_Mo_atom (i := 46) rfl).1 (ct_Mo_next dy (mm_up g3 52 28 (nI o)) r3 (mx_fr hx hF4) (nx_ub B hl2.1.2) (ms_nx hml3 h23')) (by unfold dp_; omega) ⟨by omega, by omega⟩ (Nat.le_of_ble_eq_true rfl) (mm_vs_b (b := 77) rfl (hp_len dy)) (fun v h' hqq => ?_)
        obtain ⟨rfl, g5, r5, hqe, hr5, hF5, hml5⟩ := hqq; rw [hqe]
        refine mm_B ok_Mo_atom 47 1 (161, [some (.ref 52), some (.int x)], [], (hp_SH ++ dy, g5, r5)) [] rfl trivial ?_
        refine mm_B ok_Mo_atom 80 1 (162, [some (.ref 52), some (.int x)], [.int x], (hp_SH ++ dy, g5, r5)) [] rfl trivial ?_
        exact mm_ri rfl (mm_at ok_Mo_atom (i := 81) rfl).1 ⟨Nat.le_refl _, Nat.le_refl _⟩ (⟨_, rfl, hpx, g5, r5, rfl, hr5.trans hr3, hF4.tr (hF5.mono mf_mg), hml5, hF5 52 28 rfl, (hF5 52 29 rfl).trans h329⟩)
      · rw [if_neg (show ¬ tk0 B n (ts_ B n q2) = sg_ 41 from fun e => h5 (show tk_ B n q2 = -17 from e.trans (by decide)))]
        refine mm_I ok_Mo_atom 33 0 64 [some (.ref 52), some (.int x)] [.int 0] (hp_SH ++ dy, g3, r3) [] rfl trivial rfl rfl (fun q => False.elim (q rfl)) (fun _ => ?_)
        refine mm_B ok_Mo_atom 34 1 (68, [some (.ref 52), some (.int x)], [.ref 52], (hp_SH ++ dy, g3, r3)) [] rfl trivial ?_
        refine mm_cV (as := []) (st := []) (q := 52) cw_Mo_fail lk_Mo_184 in_Mo_fail sl_Mo_fail rfl rfl (mm_at ok_Mo_atom (i := 35) rfl).1 (ct_Mo_fail0 dy g3 r3 h329) (by unfold dp_; omega) ⟨by omega, by omega⟩ (Nat.le_of_ble_eq_true rfl) (mm_vs_b (b := 77) rfl (hp_len dy)) (fun v h' hqq => ?_)
        obtain ⟨rfl, hqe⟩ := hqq; rw [hqe]
        refine mm_I ok_Mo_atom 36 8 85 [some (.ref 52), some (.int x)] [.int ((mm_up (mm_up g3 52 29 1) 52 30 (g3 52 26)) 52 29)] (hp_SH ++ dy, mm_up (mm_up (mm_up g3 52 29 1) 52 30 (g3 52 26)) 52 28 (((mm_up (mm_up g3 52 29 1) 52 30 (g3 52 26)) 52 28) - 1), r3) [] rfl trivial rfl rfl (fun _ => ?_) (fun q => False.elim (absurd (show (1 : Int32) = 0 from q) (by decide)))
        refine mm_B ok_Mo_atom 80 1 (162, [some (.ref 52), some (.int x)], [.int x], (hp_SH ++ dy, mm_up (mm_up (mm_up g3 52 29 1) 52 30 (g3 52 26)) 52 28 (((mm_up (mm_up g3 52 29 1) 52 30 (g3 52 26)) 52 28) - 1), r3)) [] rfl trivial ?_
        exact mm_ri rfl (mm_at ok_Mo_atom (i := 81) rfl).1 ⟨Nat.le_refl _, Nat.le_refl _⟩ (⟨_, rfl, _, r3, rfl, hr3, ((hF23.up _ rfl).up _ rfl).up _ rfl, rfl, hml3.2.2.1⟩)
  · have hend : mq_ dy rs B n sc o g [] (.inr (ts_ B n q)) (some (.int 0)) (hp_SH ++ dy, mm_up (mm_up g 52 29 1) 52 30 (g 52 26), r) := ⟨_, rfl, _, r, rfl, hr, (fr_.rf.up _ rfl).up _ rfl, rfl, hml.2.2.1⟩
    by_cases h13 : tk_ B n q = -13
    · have ho5 : o = 5 := by
        have : ¬ o < 5 := fun e => h0' ⟨h13, e⟩
        omega
      subst ho5
      rw [if_pos (show tk0 B n (ts_ B n q) = sg_ 45 from h13.trans (by decide))]
      refine mm_I ok_Mo_atom 5 0 8 [some (.ref 52), some (.int 0)] [.int 1] (hp_SH ++ dy, g, r) [] rfl trivial rfl rfl (fun q => False.elim (absurd q (by decide))) (fun _ => ?_)
      refine mm_B ok_Mo_atom 6 1 (12, [some (.ref 52), some (.int 0)], [.ref 52], (hp_SH ++ dy, g, r)) [] rfl trivial ?_
      refine mm_cV (as := []) (st := []) (q := 52) cw_Mo_opens lk_Mo_215 in_Mo_opens sl_Mo_opens rfl rfl (mm_at ok_Mo_atom (i := 7) rfl).1 (ct_Mo_opens5 dy g r h28 h29) (by unfold dp_; omega) ⟨by omega, by omega⟩ (Nat.le_of_ble_eq_true rfl) (mm_vs_b (b := 77) rfl (hp_len dy)) (fun v h' hqq => ?_)
      obtain ⟨rfl, hqe⟩ := hqq; rw [hqe]
      refine mm_I ok_Mo_atom 8 0 15 [some (.ref 52), some (.int 0)] [.int 0] (hp_SH ++ dy, mm_up (mm_up g 52 29 1) 52 30 (g 52 26), r) [] rfl trivial rfl rfl (fun _ => ?_) (fun q => False.elim (q rfl))
      refine mm_B ok_Mo_atom 80 1 (162, [some (.ref 52), some (.int 0)], [.int 0], (hp_SH ++ dy, mm_up (mm_up g 52 29 1) 52 30 (g 52 26), r)) [] rfl trivial ?_
      exact mm_ri rfl (mm_at ok_Mo_atom (i := 81) rfl).1 ⟨Nat.le_refl _, Nat.le_refl _⟩ (hend)
    · rw [if_neg (show ¬ tk0 B n (ts_ B n q) = sg_ 45 from fun e => h13 (show tk_ B n q = -13 from e.trans (by decide)))]
      refine mm_I ok_Mo_atom 5 0 8 [some (.ref 52), some (.int 0)] [.int 0] (hp_SH ++ dy, g, r) [] rfl trivial rfl rfl (fun _ => ?_) (fun q => False.elim (q rfl))
      refine mm_B ok_Mo_atom 20 2 (40, [some (.ref 52), some (.int 0)], [.int 40, .ref 52], (hp_SH ++ dy, g, r)) [] rfl trivial ?_
      refine mm_cV (as := [.int 40]) (st := []) (q := 52) cw_Mo_isSign lk_Mo_212 in_Mo_isSign sl_Mo_isSign rfl rfl (mm_at ok_Mo_atom (i := 22) rfl).1 (ct_Mo_isSign dy g r hml h29 (x := 40) (by decide)) (by unfold dp_; omega) ⟨by omega, by omega⟩ (Nat.le_of_ble_eq_true rfl) (mm_vs_b (b := 77) rfl (hp_len dy)) (fun v h' hqq => ?_)
      obtain ⟨rfl, hqe⟩ := hqq; rw [hqe]
      by_cases h16 : tk_ B n q = -16
      · have ho5 : o = 5 := by
          have : ¬ o < 5 := fun e => h1 ⟨h16, e⟩
          omega
        subst ho5
        rw [if_pos (show tk0 B n (ts_ B n q) = sg_ 40 from h16.trans (by decide))]
        refine mm_I ok_Mo_atom 23 0 43 [some (.ref 52), some (.int 0)] [.int 1] (hp_SH ++ dy, g, r) [] rfl trivial rfl rfl (fun q => False.elim (absurd q (by decide))) (fun _ => ?_)
        refine mm_B ok_Mo_atom 24 1 (47, [some (.ref 52), some (.int 0)], [.ref 52], (hp_SH ++ dy, g, r)) [] rfl trivial ?_
        refine mm_cV (as := []) (st := []) (q := 52) cw_Mo_opens lk_Mo_215 in_Mo_opens sl_Mo_opens rfl rfl (mm_at ok_Mo_atom (i := 25) rfl).1 (ct_Mo_opens5 dy g r h28 h29) (by unfold dp_; omega) ⟨by omega, by omega⟩ (Nat.le_of_ble_eq_true rfl) (mm_vs_b (b := 77) rfl (hp_len dy)) (fun v h' hqq => ?_)
        obtain ⟨rfl, hqe⟩ := hqq; rw [hqe]
        refine mm_I ok_Mo_atom 26 0 50 [some (.ref 52), some (.int 0)] [.int 0] (hp_SH ++ dy, mm_up (mm_up g 52 29 1) 52 30 (g 52 26), r) [] rfl trivial rfl rfl (fun _ => ?_) (fun q => False.elim (q rfl))
        refine mm_B ok_Mo_atom 80 1 (162, [some (.ref 52), some (.int 0)], [.int 0], (hp_SH ++ dy, mm_up (mm_up g 52 29 1) 52 30 (g 52 26), r)) [] rfl trivial ?_
        exact mm_ri rfl (mm_at ok_Mo_atom (i := 81) rfl).1 ⟨Nat.le_refl _, Nat.le_refl _⟩ (hend)
      · rw [if_neg (show ¬ tk0 B n (ts_ B n q) = sg_ 40 from fun e => h16 (show tk_ B n q = -16 from e.trans (by decide)))]
        refine mm_I ok_Mo_atom 23 0 43 [some (.ref 52), some (.int 0)] [.int 0] (hp_SH ++ dy, g, r) [] rfl trivial rfl rfl (fun _ => ?_) (fun q => False.elim (q rfl))
        refine mm_B ok_Mo_atom 48 2 (99, [some (.ref 52), some (.int 0)], [.int (g 52 29)], (hp_SH ++ dy, g, r)) [] rfl trivial ?_
        rw [h29]
        refine mm_I ok_Mo_atom 50 0 99 [some (.ref 52), some (.int 0)] [.int 0] (hp_SH ++ dy, g, r) [] rfl trivial rfl rfl (fun q => False.elim (absurd rfl q)) (fun _ => ?_)
        refine mm_B ok_Mo_atom 51 3 (107, [some (.ref 52), some (.int 0)], [.int 2, .int (g 52 25)], (hp_SH ++ dy, g, r)) [] rfl trivial ?_
        rw [hml.2.1]
        have hk2 : ¬ mk0 B n (ts_ B n q) = 2 := by
          intro hk
          rcases hsk with ⟨a, -⟩ | ⟨a, -⟩ | ⟨a, -, m, b, c⟩ | ⟨a, -⟩ | ⟨a, -⟩
          · rw [a] at hk; cases hk
          · rw [a] at hk; cases hk
          · exact h0 (by rw [ts_tk, b]; exact Int32.le_trans (show (-6 : Int32) ≤ 0 by decide) (nI_pos' (by omega)))
          · rw [a] at hk; cases hk
          · rw [a] at hk; cases hk
        refine mm_I ok_Mo_atom 54 0 107 [some (.ref 52), some (.int 0)] [.int 2, .int (mk0 B n (ts_ B n q))] (hp_SH ++ dy, g, r) [] rfl trivial rfl rfl (fun _ => ?_) (fun q => False.elim (hk2 q))
        refine mm_B ok_Mo_atom 62 2 (127, [some (.ref 52), some (.int 0)], [.int (g 52 29)], (hp_SH ++ dy, g, r)) [] rfl trivial ?_
        rw [h29]
        refine mm_I ok_Mo_atom 64 0 127 [some (.ref 52), some (.int 0)] [.int 0] (hp_SH ++ dy, g, r) [] rfl trivial rfl rfl (fun q => False.elim (absurd rfl q)) (fun _ => ?_)
        refine mm_B ok_Mo_atom 65 3 (135, [some (.ref 52), some (.int 0)], [.int 1, .int (g 52 25)], (hp_SH ++ dy, g, r)) [] rfl trivial ?_
        rw [hml.2.1]
        by_cases hk1 : mk0 B n (ts_ B n q) = 1
        · refine mm_I ok_Mo_atom 68 0 135 [some (.ref 52), some (.int 0)] [.int 1, .int (mk0 B n (ts_ B n q))] (hp_SH ++ dy, g, r) [] rfl trivial rfl rfl (fun q => False.elim (absurd hk1 q)) (fun _ => ?_)
          refine mm_B ok_Mo_atom 69 1 (139, [some (.ref 52), some (.int 0)], [.ref 52], (hp_SH ++ dy, g, r)) [] rfl trivial ?_
          have hc : ∀ i, i < 6 → -6 ≤ kc_ i := by decide
          refine mm_cV (as := []) (st := []) (q := 52) cw_Mo_name lk_Mo_226 in_Mo_name sl_Mo_name rfl rfl (mm_at ok_Mo_atom (i := 70) rfl).1 (ct_Mo_nameX dy g r hx hml h29 (fun i hi e => h0 (by rw [ts_tk, e]; exact hc i hi))) (by unfold dp_; omega) ⟨by omega, by omega⟩ (Nat.le_of_ble_eq_true rfl) (mm_vs_b (b := 77) rfl (hp_len dy)) (fun v h' hqq => ?_)
          obtain ⟨rfl, hqe⟩ := hqq; rw [hqe]
          refine mm_I ok_Mo_atom 71 3 147 [some (.ref 52), some (.int 0)] [.int ((mm_up (mm_up g 52 29 1) 52 30 (g 52 26)) 52 29)] (hp_SH ++ dy, mm_up (mm_up g 52 29 1) 52 30 (g 52 26), r) [] rfl trivial rfl rfl (fun _ => ?_) (fun q => False.elim (absurd (show (1 : Int32) = 0 from q) (by decide)))
          refine mm_B ok_Mo_atom 80 1 (162, [some (.ref 52), some (.int 0)], [.int 0], (hp_SH ++ dy, mm_up (mm_up g 52 29 1) 52 30 (g 52 26), r)) [] rfl trivial ?_
          exact mm_ri rfl (mm_at ok_Mo_atom (i := 81) rfl).1 ⟨Nat.le_refl _, Nat.le_refl _⟩ (hend)
        · refine mm_I ok_Mo_atom 68 0 135 [some (.ref 52), some (.int 0)] [.int 1, .int (mk0 B n (ts_ B n q))] (hp_SH ++ dy, g, r) [] rfl trivial rfl rfl (fun _ => ?_) (fun q => False.elim (hk1 q))
          refine mm_B ok_Mo_atom 78 1 (158, [some (.ref 52), some (.int 0)], [.ref 52], (hp_SH ++ dy, g, r)) [] rfl trivial ?_
          refine mm_cV (as := []) (st := []) (q := 52) cw_Mo_fail lk_Mo_184 in_Mo_fail sl_Mo_fail rfl rfl (mm_at ok_Mo_atom (i := 79) rfl).1 (ct_Mo_fail0 dy g r h29) (by unfold dp_; omega) ⟨by omega, by omega⟩ (Nat.le_of_ble_eq_true rfl) (mm_vs_b (b := 77) rfl (hp_len dy)) (fun v h' hqq => ?_)
          obtain ⟨rfl, hqe⟩ := hqq; rw [hqe]
          refine mm_B ok_Mo_atom 80 1 (162, [some (.ref 52), some (.int 0)], [.int 0], (hp_SH ++ dy, mm_up (mm_up g 52 29 1) 52 30 (g 52 26), r)) [] rfl trivial ?_
          exact mm_ri rfl (mm_at ok_Mo_atom (i := 81) rfl).1 ⟨Nat.le_refl _, Nat.le_refl _⟩ (hend)
theorem mr_all (dy : List mm_Sh) (rs : Nat × (Nat → Int32)) {B : Nat → Int32} {n t : Nat} {sc : Nat → Int32} : ∀ f, mr_P dy rs B n t sc f := by
  have h : ∀ F f, f < F → mr_P dy rs B n t sc f := by
    intro F
    induction F with
    | zero => intro f hf; omega
    | succ F ih =>
      intro f hf
      cases f with
      | zero => intro lev o q res g r _ _ _ _ h; cases h
      | succ f =>
        have IH : ∀ f', f' < f + 1 → mr_P dy rs B n t sc f' := fun f' h' => ih f' (by omega)
        intro lev o q res g r hl hl3 ho hq hps hr hx hms
        match lev, hl, hl3, hps with
        | 0, _, _, hps => exact mr_c_either dy rs IH ho hq hps hr hx hms
        | 1, _, _, hps => exact mr_c_both dy rs IH ho hq hps hr hx hms
        | 2, _, _, hps => exact mr_c_not dy rs IH ho hq hps hr hx hms
        | 3, _, h3, _ => exact absurd rfl h3
        | 4, _, _, hps => exact mr_c_added dy rs IH ho hq hps hr hx hms
        | 5, _, _, hps => exact mr_c_term dy rs IH ho hq hps hr hx hms
        | 6, _, _, hps => exact mr_c_atom dy rs IH ho hq hps hr hx hms
        | k + 7, hl, _, _ => omega
  exact fun f => h (f + 1) f (Nat.lt_succ_self f)

