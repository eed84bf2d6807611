/-! ===== the JDK's methods over String constants; Reader.reads ===== -/
theorem pl_St' : plainName "java/lang/String" = true := by decide +kernel
theorem ct_St_coder (h : mm_Hp) {i : Nat} (hi : i < 12) : mm_Ct 1 M_St_coder [.retAddr i] h 0 0 (fun v h' => v = some (.int 0) ∧ h' = h) := by
  refine mm_start pl_St (Nat.le_of_ble_eq_true rfl) ?_
  refine mm_gsC fk_St_38 (mm_at ok_St_coder (i := 0) rfl).1 ?_
  refine mm_I ok_St_coder 1 0 3 [some (.retAddr i)] [.int 1] h [] rfl trivial rfl rfl (fun q => False.elim (absurd q (by decide))) (fun _ => ?_)
  refine mm_B ok_St_coder 2 1 (7, [some (.retAddr i)], [.retAddr i], h) [] rfl trivial ?_
  refine mm_gfC hi fk_St_15 (mm_at ok_St_coder (i := 3) rfl).1 ?_
  refine mm_B ok_St_coder 4 1 (14, [some (.retAddr i)], [.int 0], h) [] rfl trivial ?_
  exact mm_rc rfl (by decide) (mm_at ok_St_coder (i := 6) rfl).1 ⟨Nat.le_refl _, Nat.le_refl _⟩ ⟨rfl, rfl⟩
theorem ct_St_isLatin1 (h : mm_Hp) {i : Nat} (hi : i < 12) : mm_Ct 1 M_St_isLatin1 [.retAddr i] h 0 0 (fun v h' => v = some (.int 1) ∧ h' = h) := by
  refine mm_start pl_St (Nat.le_of_ble_eq_true rfl) ?_
  refine mm_gsC fk_St_38 (mm_at ok_St_isLatin1 (i := 0) rfl).1 ?_
  refine mm_I ok_St_isLatin1 1 0 3 [some (.retAddr i)] [.int 1] h [] rfl trivial rfl rfl (fun q => False.elim (absurd q (by decide))) (fun _ => ?_)
  refine mm_B ok_St_isLatin1 2 1 (7, [some (.retAddr i)], [.retAddr i], h) [] rfl trivial ?_
  refine mm_gfC hi fk_St_15 (mm_at ok_St_isLatin1 (i := 3) rfl).1 ?_
  refine mm_I ok_St_isLatin1 4 0 10 [some (.retAddr i)] [.int 0] h [] rfl trivial rfl rfl (fun q => False.elim (absurd rfl q)) (fun _ => ?_)
  refine mm_B ok_St_isLatin1 5 2 (18, [some (.retAddr i)], [.int 1], h) [] rfl trivial ?_
  exact mm_rz rfl (mm_at ok_St_isLatin1 (i := 8) rfl).1 ⟨Nat.le_refl _, Nat.le_refl _⟩ (Or.inr rfl) (⟨rfl, rfl⟩)
theorem sl_shr : ∀ i, i < 12 → nI (mm_sl.getD i 0) >>> ((0 : Int32) &&& 31) = nI (mm_sl.getD i 0) := by decide +kernel
theorem ct_St_length (h : mm_Hp) {i : Nat} (hi : i < 12) : mm_Ct 2 M_St_length [.retAddr i] h 0 0 (fun v h' => v = some (.int (nI (mm_sl.getD i 0))) ∧ h' = h) := by
  refine mm_start pl_St (Nat.le_of_ble_eq_true rfl) ?_
  refine mm_B ok_St_length 0 1 (1, [some (.retAddr i)], [.retAddr i], h) [] rfl trivial ?_
  refine mm_gfV hi fk_St_9 (mm_at ok_St_length (i := 1) rfl).1 ?_
  refine mm_stl' hi (mm_at ok_St_length (i := 2) rfl).1 ?_
  refine mm_B ok_St_length 3 1 (6, [some (.retAddr i)], [.retAddr i, .int (nI (mm_sl.getD i 0))], h) [] rfl trivial ?_
  refine mm_cT (as := []) (st := [.int (nI (mm_sl.getD i 0))]) hi cw_St_coder lk_St_335 in_St_coder sl_St_coder (mm_at ok_St_length (i := 4) rfl).1 (ct_St_coder h hi) (by decide) ⟨Nat.le_refl _, Nat.le_refl _⟩ (Nat.le_of_ble_eq_true rfl) (mm_vs_b (b := 0) rfl (Nat.zero_le _)) (fun v h' hqq => ?_)
  obtain ⟨rfl, hqe⟩ := hqq
  rw [hqe]
  refine mm_B ok_St_length 5 1 (10, [some (.retAddr i)], [.int ((nI (mm_sl.getD i 0)) >>> (0 &&& 31))], h) [] rfl trivial ?_
  exact mm_ri rfl (mm_at ok_St_length (i := 6) rfl).1 ⟨Nat.le_refl _, Nat.le_refl _⟩ ⟨congrArg some (congrArg Value.int (sl_shr i hi)), rfl⟩
theorem ct_Pr_checkIndexN (h : mm_Hp) {x y : Int32} (h0 : 0 ≤ x) (h1 : x < y) : mm_Ct 1 M_Pr_checkIndex [.int x, .int y, .null] h 0 0 (fun v h' => v = some (.int x) ∧ h' = h) := by
  refine mm_start pl_Pr (Nat.le_of_ble_eq_true rfl) ?_
  refine mm_I ok_Pr_checkIndex 0 1 1 [some (.int x), some (.int y), some (.null)] [.int x] h [] rfl trivial rfl rfl (fun q => False.elim (absurd q (Int32.not_lt.mpr h0))) (fun _ => ?_)
  refine mm_I ok_Pr_checkIndex 2 2 6 [some (.int x), some (.int y), some (.null)] [.int y, .int x] h [] rfl trivial rfl rfl (fun _ => ?_) (fun q => False.elim (q h1))
  refine mm_B ok_Pr_checkIndex 10 1 (17, [some (.int x), some (.int y), some (.null)], [.int x], h) [] rfl trivial ?_
  exact mm_ri rfl (mm_at ok_Pr_checkIndex (i := 11) rfl).1 ⟨Nat.le_refl _, Nat.le_refl _⟩ (⟨rfl, rfl⟩)
theorem ct_Pr_checkIndexS (h : mm_Hp) {x y : Int32} (h0 : 0 ≤ x) (h1 : x < y) : mm_Ct 1 M_Pr_checkIndex [.int x, .int y, .retAddr 200] h 0 0 (fun v h' => v = some (.int x) ∧ h' = h) := by
  refine mm_start pl_Pr (Nat.le_of_ble_eq_true rfl) ?_
  refine mm_I ok_Pr_checkIndex 0 1 1 [some (.int x), some (.int y), some (.retAddr 200)] [.int x] h [] rfl trivial rfl rfl (fun q => False.elim (absurd q (Int32.not_lt.mpr h0))) (fun _ => ?_)
  refine mm_I ok_Pr_checkIndex 2 2 6 [some (.int x), some (.int y), some (.retAddr 200)] [.int y, .int x] h [] rfl trivial rfl rfl (fun _ => ?_) (fun q => False.elim (q h1))
  refine mm_B ok_Pr_checkIndex 10 1 (17, [some (.int x), some (.int y), some (.retAddr 200)], [.int x], h) [] rfl trivial ?_
  exact mm_ri rfl (mm_at ok_Pr_checkIndex (i := 11) rfl).1 ⟨Nat.le_refl _, Nat.le_refl _⟩ (⟨rfl, rfl⟩)
theorem ct_St_checkIndex (h : mm_Hp) {x y : Int32} (h0 : 0 ≤ x) (h1 : x < y) : mm_Ct 2 M_St_checkIndex [.int x, .int y] h 0 0 (fun v h' => v = none ∧ h' = h) := by
  refine mm_start pl_St (Nat.le_of_ble_eq_true rfl) ?_
  refine mm_B ok_St_checkIndex 0 2 (2, [some (.int x), some (.int y)], [.int y, .int x], h) [] rfl trivial ?_
  refine mm_gsF fk_St_1053 (mm_at ok_St_checkIndex (i := 2) rfl).1 ?_ ?_
  · refine mm_cS (as := [.int x, .int y, .null]) (st := []) cw_Pr_checkIndex lk_St_1059 sx_Pr_checkIndex (mm_at ok_St_checkIndex (i := 3) rfl).1 (ct_Pr_checkIndexN h h0 h1) (by decide) ⟨by omega, by omega⟩ (Nat.le_of_ble_eq_true rfl) (mm_vs_b (b := 0) rfl (Nat.zero_le _)) (fun v h' hqq => ?_)
    obtain ⟨rfl, hqe⟩ := hqq; rw [hqe]
    refine mm_B ok_St_checkIndex 4 1 (9, [some (.int x), some (.int y)], [], h) [] rfl trivial ?_
    exact mm_r0 rfl (mm_at ok_St_checkIndex (i := 5) rfl).1 ⟨Nat.le_refl _, Nat.le_refl _⟩ (⟨rfl, rfl⟩)
  · refine mm_cS (as := [.int x, .int y, .retAddr 200]) (st := []) cw_Pr_checkIndex lk_St_1059 sx_Pr_checkIndex (mm_at ok_St_checkIndex (i := 3) rfl).1 (ct_Pr_checkIndexS h h0 h1) (by decide) ⟨by omega, by omega⟩ (Nat.le_of_ble_eq_true rfl) (mm_vs_b (b := 0) rfl (Nat.zero_le _)) (fun v h' hqq => ?_)
    obtain ⟨rfl, hqe⟩ := hqq; rw [hqe]
    refine mm_B ok_St_checkIndex 4 1 (9, [some (.int x), some (.int y)], [], h) [] rfl trivial ?_
    exact mm_r0 rfl (mm_at ok_St_checkIndex (i := 5) rfl).1 ⟨Nat.le_refl _, Nat.le_refl _⟩ (⟨rfl, rfl⟩)
theorem sb_ch : ∀ i, i < 12 → ∀ k, k < mm_sl.getD i 0 → ((((mm_sb.getD i []).getD k 0 &&& 255).toUInt32 % 65536).toInt32 = (mm_sb.getD i []).getD k 0) ∧ vp_nar .char ((mm_sb.getD i []).getD k 0) = (mm_sb.getD i []).getD k 0 := by decide +kernel
theorem sl_lt : ∀ i, i < 12 → mm_sl.getD i 0 < 7 := by decide
theorem ct_Sl_charAt (h : mm_Hp) {i k : Nat} (hi : i < 12) (hk : k < mm_sl.getD i 0) : mm_Ct 3 M_Sl_charAt [.retAddr (100 + i), .int (nI k)] h 0 0 (fun v h' => v = some (.int ((mm_sb.getD i []).getD k 0)) ∧ h' = h) := by
  have h7 := sl_lt i hi
  have hc := sb_ch i hi k hk
  refine mm_start pl_Sl (Nat.le_of_ble_eq_true rfl) ?_
  refine mm_B ok_Sl_charAt 0 2 (2, [some (.retAddr (100 + i)), some (.int (nI k))], [.retAddr (100 + i), .int (nI k)], h) [] rfl trivial ?_
  refine mm_stl' hi (mm_at ok_Sl_charAt (i := 2) rfl).1 ?_
  refine mm_cS (as := [.int (nI k), .int (nI (mm_sl.getD i 0))]) (st := []) cw_St_checkIndex lk_Sl_9 sx_St_checkIndex (mm_at ok_Sl_charAt (i := 3) rfl).1 (ct_St_checkIndex h (nI_pos' (by omega)) (nI_lt hk (by omega))) (by decide) ⟨by omega, by omega⟩ (Nat.le_of_ble_eq_true rfl) (mm_vs_b (b := 0) rfl (Nat.zero_le _)) (fun v h' hqq => ?_)
  obtain ⟨rfl, hqe⟩ := hqq; rw [hqe]
  refine mm_B ok_Sl_charAt 4 2 (8, [some (.retAddr (100 + i)), some (.int (nI k))], [.int (nI k), .retAddr (100 + i)], h) [] rfl trivial ?_
  refine mm_stb hi (nI_vi hk (by omega)) (mm_at ok_Sl_charAt (i := 6) rfl).1 ?_
  rw [nI_clamp (show k < 2 ^ 31 by omega)]
  refine mm_B ok_Sl_charAt 7 3 (14, [some (.retAddr (100 + i)), some (.int (nI k))], [.int ((((mm_sb.getD i []).getD k 0) &&& 255).toUInt32 % 65536).toInt32], h) [] rfl trivial ?_
  rw [hc.1]
  exact mm_rc rfl (congrArg Value.int hc.2) (mm_at ok_Sl_charAt (i := 10) rfl).1 ⟨Nat.le_refl _, Nat.le_refl _⟩ ⟨rfl, rfl⟩
theorem ct_St_charAt (h : mm_Hp) {i k : Nat} (hi : i < 12) (hk : k < mm_sl.getD i 0) : mm_Ct 4 M_St_charAt [.retAddr i, .int (nI k)] h 0 0 (fun v h' => v = some (.int ((mm_sb.getD i []).getD k 0)) ∧ h' = h) := by
  refine mm_start pl_St (Nat.le_of_ble_eq_true rfl) ?_
  have hc := sb_ch i hi k hk
  refine mm_B ok_St_charAt 0 1 (1, [some (.retAddr i), some (.int (nI k))], [.retAddr i], h) [] rfl trivial ?_
  refine mm_cT (as := []) (st := []) hi cw_St_isLatin1 lk_St_492 in_St_isLatin1 sl_St_isLatin1 (mm_at ok_St_charAt (i := 1) rfl).1 (ct_St_isLatin1 h hi) (by decide) ⟨Nat.le_refl _, Nat.le_refl _⟩ (Nat.le_of_ble_eq_true rfl) (mm_vs_b (b := 0) rfl (Nat.zero_le _)) (fun v h' hqq => ?_)
  obtain ⟨rfl, hqe⟩ := hqq
  rw [hqe]
  refine mm_I ok_St_charAt 2 0 4 [some (.retAddr i), some (.int (nI k))] [.int 1] h [] rfl trivial rfl rfl (fun q => False.elim (absurd q (by decide))) (fun _ => ?_)
  refine mm_B ok_St_charAt 3 1 (8, [some (.retAddr i), some (.int (nI k))], [.retAddr i], h) [] rfl trivial ?_
  refine mm_gfV hi fk_St_9 (mm_at ok_St_charAt (i := 4) rfl).1 ?_
  refine mm_B ok_St_charAt 5 1 (12, [some (.retAddr i), some (.int (nI k))], [.int (nI k), .retAddr (100 + i)], h) [] rfl trivial ?_
  refine mm_cS (as := [.retAddr (100 + i), .int (nI k)]) (st := []) cw_Sl_charAt lk_St_495 sx_Sl_charAt (mm_at ok_St_charAt (i := 6) rfl).1 (ct_Sl_charAt h hi hk) (by decide) ⟨by omega, by omega⟩ (Nat.le_of_ble_eq_true rfl) (mm_vs_b (b := 0) rfl (Nat.zero_le _)) (fun v h' hqq => ?_)
  obtain ⟨rfl, hqe⟩ := hqq; rw [hqe]
  exact mm_rc rfl (congrArg Value.int hc.2) (mm_at ok_St_charAt (i := 7) rfl).1 ⟨Nat.le_refl _, Nat.le_refl _⟩ ⟨rfl, rfl⟩
/-- a word of the tape is that one -/
def we_ (B : Nat → Int32) : List Int32 → Nat → Bool
  | [], _ => true
  | a :: w, s => decide (B s = a) && we_ B w (s + 1)
def wm_ (B : Nat → Int32) (s e : Nat) (w : List Int32) : Bool := decide (e - s = w.length) && we_ B w s
theorem nI_sub {a b : Nat} (h : b ≤ a) : nI a - nI b = nI (a - b) := by
  have : nI a = nI (a - b) + nI b := by rw [nI_add, Nat.sub_add_cancel h]
  rw [this, Int32.add_sub_cancel]
theorem sl_sb : ∀ i, i < 12 → (mm_sb.getD i []).length = mm_sl.getD i 0 := by decide
theorem rd_go (dy : List mm_Sh) (g : Nat → Nat → Int32) (r : (Nat → Nat → Int64) × Nat × (Nat → Int32)) {B : Nat → Int32} {s e i : Nat} (hi : i < 12) (hs : g 31 2 = nI s) (hse : s ≤ e) (he : e ≤ 160) (hB : ∀ j, s ≤ j → j < e → g 32 j = B j) (hl : e - s = mm_sl.getD i 0) : ∀ (w : List Int32) (k : Nat), (mm_sb.getD i []).drop k = w → k ≤ mm_sl.getD i 0 → mm_W 5 M_Re_reads 0 0 (fun v h' => v = some (.int (if we_ B w (s + k) = true then 1 else 0)) ∧ h' = (hp_SH ++ dy, g, r)) 0 0 (20, [some (.ref 31), some (.retAddr i), some (.int (nI k))], [], (hp_SH ++ dy, g, r)) := by
  have h7 := sl_lt i hi
  have hlen := sl_sb i hi
  intro w
  induction w with
  | nil =>
    intro k hw hk
    have hk : k = mm_sl.getD i 0 := by
      have h1 := congrArg List.length hw
      rw [List.length_drop, hlen] at h1
      simp only [List.length_nil] at h1
      omega
    refine mm_B ok_Re_reads 12 2 (22, [some (.ref 31), some (.retAddr i), some (.int (nI k))], [.retAddr i, .int (nI k)], (hp_SH ++ dy, g, r)) [] rfl trivial ?_
    refine mm_cT (as := []) (st := [.int (nI k)]) hi cw_St_length lk_Re_123 in_St_length sl_St_length (mm_at ok_Re_reads (i := 14) rfl).1 (ct_St_length (hp_SH ++ dy, g, r) hi) (by decide) ⟨Nat.le_refl _, Nat.le_refl _⟩ (Nat.le_of_ble_eq_true rfl) (mm_vs_b (b := 77) rfl (hp_len dy)) (fun v h' hqq => ?_)
    obtain ⟨rfl, hqe⟩ := hqq
    rw [hqe]
    refine mm_I ok_Re_reads 15 0 25 [some (.ref 31), some (.retAddr i), some (.int (nI k))] [.int (nI (mm_sl.getD i 0)), .int (nI k)] (hp_SH ++ dy, g, r) [] rfl trivial rfl rfl (fun _ => ?_) (fun q => False.elim (q (nI_le (by omega) (by omega))))
    refine mm_B ok_Re_reads 31 1 (56, [some (.ref 31), some (.retAddr i), some (.int (nI k))], [.int 1], (hp_SH ++ dy, g, r)) [] rfl trivial ?_
    exact mm_rz rfl (mm_at ok_Re_reads (i := 32) rfl).1 ⟨Nat.le_refl _, Nat.le_refl _⟩ (Or.inr rfl) (⟨by rw [show we_ B [] (s + k) = true from rfl, if_pos rfl], rfl⟩)
  | cons a w ih =>
    intro k hw hk
    have hlt : k < (mm_sb.getD i []).length := by
      have h1 := congrArg List.length hw
      rw [List.length_drop] at h1
      simp only [List.length_cons] at h1
      omega
    have hw2 : (mm_sb.getD i []).getD k 0 = a ∧ (mm_sb.getD i []).drop (k + 1) = w := by
      have h1 := List.drop_eq_getElem_cons hlt
      rw [hw] at h1
      injection h1 with h2 h3
      refine ⟨?_, h3.symm⟩
      rw [h2, List.getD_eq_getElem?_getD, List.getElem?_eq_getElem hlt]
      rfl
    have hkl : k < mm_sl.getD i 0 := by omega
    refine mm_B ok_Re_reads 12 2 (22, [some (.ref 31), some (.retAddr i), some (.int (nI k))], [.retAddr i, .int (nI k)], (hp_SH ++ dy, g, r)) [] rfl trivial ?_
    refine mm_cT (as := []) (st := [.int (nI k)]) hi cw_St_length lk_Re_123 in_St_length sl_St_length (mm_at ok_Re_reads (i := 14) rfl).1 (ct_St_length (hp_SH ++ dy, g, r) hi) (by decide) ⟨Nat.le_refl _, Nat.le_refl _⟩ (Nat.le_of_ble_eq_true rfl) (mm_vs_b (b := 77) rfl (hp_len dy)) (fun v h' hqq => ?_)
    obtain ⟨rfl, hqe⟩ := hqq
    rw [hqe]
    refine mm_I ok_Re_reads 15 0 25 [some (.ref 31), some (.retAddr i), some (.int (nI k))] [.int (nI (mm_sl.getD i 0)), .int (nI k)] (hp_SH ++ dy, g, r) [] rfl trivial rfl rfl (fun q => False.elim (nI_ge hkl (by omega) q)) (fun _ => ?_)
    refine mm_B ok_Re_reads 16 9 (41, [some (.ref 31), some (.retAddr i), some (.int (nI k))], [.int (nI k), .retAddr i, .int (g 32 (((g 31 2) + (nI k)).toNatClampNeg))], (hp_SH ++ dy, g, r)) [vp_in ((g 31 2) + (nI k)) 160] rfl (show vp_in ((g 31 2) + (nI k)) 160 from (by rw [hs, nI_add]; exact nI_vi (by omega) (by decide))) ?_
    rw [hs, nI_add, nI_clamp (show s + k < 2 ^ 31 by omega), hB (s + k) (by omega) (by omega)]
    refine mm_cT (as := [.int (nI k)]) (st := [.int (B (s + k))]) hi cw_St_charAt lk_Re_128 in_St_charAt sl_St_charAt (mm_at ok_Re_reads (i := 25) rfl).1 (ct_St_charAt (hp_SH ++ dy, g, r) hi hkl) (by decide) ⟨Nat.le_refl _, Nat.le_refl _⟩ (Nat.le_of_ble_eq_true rfl) (mm_vs_b (b := 77) rfl (hp_len dy)) (fun v h' hqq => ?_)
    obtain ⟨rfl, hqe⟩ := hqq
    rw [hqe, hw2.1]
    refine mm_I ok_Re_reads 26 0 44 [some (.ref 31), some (.retAddr i), some (.int (nI k))] [.int a, .int (B (s + k))] (hp_SH ++ dy, g, r) [] rfl trivial rfl rfl (fun q => ?_) (fun q => ?_)
    · refine mm_B ok_Re_reads 29 2 (20, [some (.ref 31), some (.retAddr i), some (.int ((nI k) + 1))], [], (hp_SH ++ dy, g, r)) [] rfl trivial ?_
      rw [nI_1]
      have h8 := ih (k + 1) hw2.2 (by omega)
      have e9 : we_ B (a :: w) (s + k) = we_ B w (s + (k + 1)) := by
        simp only [we_]
        rw [decide_eq_true q, Bool.true_and, Nat.add_assoc]
      rw [e9]
      exact h8
    · refine mm_B ok_Re_reads 27 1 (48, [some (.ref 31), some (.retAddr i), some (.int (nI k))], [.int 0], (hp_SH ++ dy, g, r)) [] rfl trivial ?_
      have e9 : we_ B (a :: w) (s + k) = false := by
        simp only [we_]
        rw [decide_eq_false q, Bool.false_and]
      exact mm_rz rfl (mm_at ok_Re_reads (i := 28) rfl).1 ⟨Nat.le_refl _, Nat.le_refl _⟩ (Or.inl rfl) (⟨by rw [e9]; rfl, rfl⟩)
theorem ct_Re_reads (dy : List mm_Sh) (g : Nat → Nat → Int32) (r : (Nat → Nat → Int64) × Nat × (Nat → Int32)) {B : Nat → Int32} {s e i : Nat} (hi : i < 12) (hs : g 31 2 = nI s) (hp : g 31 3 = nI e) (hse : s ≤ e) (he : e ≤ 160) (hB : ∀ j, s ≤ j → j < e → g 32 j = B j) : mm_Ct 5 M_Re_reads [.ref 31, .retAddr i] (hp_SH ++ dy, g, r) 0 0 (fun v h' => v = some (.int (if wm_ B s e (mm_sb.getD i []) = true then 1 else 0)) ∧ h' = (hp_SH ++ dy, g, r)) := by
  have h7 := sl_lt i hi
  have hlen := sl_sb i hi
  refine mm_start pl_Re (Nat.le_of_ble_eq_true rfl) ?_
  refine mm_B ok_Re_reads 0 6 (10, [some (.ref 31), some (.retAddr i), none], [.retAddr i, .int ((g 31 3) - (g 31 2))], (hp_SH ++ dy, g, r)) [] rfl trivial ?_
  rw [hp, hs, nI_sub hse]
  refine mm_cT (as := []) (st := [.int (nI (e - s))]) hi cw_St_length lk_Re_123 in_St_length sl_St_length (mm_at ok_Re_reads (i := 6) rfl).1 (ct_St_length (hp_SH ++ dy, g, r) hi) (by decide) ⟨Nat.le_refl _, Nat.le_refl _⟩ (Nat.le_of_ble_eq_true rfl) (mm_vs_b (b := 77) rfl (hp_len dy)) (fun v h' hqq => ?_)
  obtain ⟨rfl, hqe⟩ := hqq
  rw [hqe]
  refine mm_I ok_Re_reads 7 0 13 [some (.ref 31), some (.retAddr i), none] [.int (nI (mm_sl.getD i 0)), .int (nI (e - s))] (hp_SH ++ dy, g, r) [] rfl trivial rfl rfl (fun q => ?_) (fun q => ?_)
  · have q2 : e - s = mm_sl.getD i 0 := (nI_eq (by omega) (by omega)).mp q
    refine mm_B ok_Re_reads 10 2 (20, [some (.ref 31), some (.retAddr i), some (.int 0)], [], (hp_SH ++ dy, g, r)) [] rfl trivial ?_
    have h8 := rd_go dy g r hi hs hse he hB q2 (mm_sb.getD i []) 0 rfl (by omega)
    have e9 : wm_ B s e (mm_sb.getD i []) = we_ B (mm_sb.getD i []) (s + 0) := by
      unfold wm_
      rw [hlen, decide_eq_true q2, Bool.true_and]
      rfl
    rw [e9]
    exact h8
  · have q2 : ¬ e - s = mm_sl.getD i 0 := fun e9 => q (by rw [e9])
    refine mm_B ok_Re_reads 8 1 (17, [some (.ref 31), some (.retAddr i), none], [.int 0], (hp_SH ++ dy, g, r)) [] rfl trivial ?_
    have e9 : wm_ B s e (mm_sb.getD i []) = false := by
      unfold wm_
      rw [hlen, decide_eq_false q2, Bool.false_and]
    exact mm_rz rfl (mm_at ok_Re_reads (i := 9) rfl).1 ⟨Nat.le_refl _, Nat.le_refl _⟩ (Or.inl rfl) (⟨by rw [e9]; rfl, rfl⟩)

