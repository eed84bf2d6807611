/-! ===== the program's calls: together ===== -/
theorem bt_t6 : ∀ m, m < 64 → ∀ l, l < 6 → ((nI m >>> (nI l &&& 31)) &&& 1) = nI (m / 2 ^ l % 2) := by decide +kernel
theorem pm1 (x : Int32) : x + (-1) = x - 1 := (Int32.sub_eq_add_neg x 1).symm
theorem or_16 : ∀ a, a < 16 → ∀ b, b < 16 → nI a ||| nI b = nI (a ||| b) := by decide +kernel
theorem or_lt {a b : Nat} (ha : a < 16) (hb : b < 16) : a ||| b < 16 := Nat.or_lt_two_pow (n := 4) ha hb
theorem ev_6 : ∀ n, n ≤ 6 → (1 <<< (nI n &&& 31)) - 1 = nI (2 ^ n - 1) := by decide
theorem p2_64 {n : Nat} (h : n ≤ 6) : 0 < 2 ^ n ∧ 2 ^ n ≤ 64 := by
  rcases (show n = 0 ∨ n = 1 ∨ n = 2 ∨ n = 3 ∨ n = 4 ∨ n = 5 ∨ n = 6 by omega) with rfl | rfl | rfl | rfl | rfl | rfl | rfl <;> decide
/-- what those in who have, as bits *-/
def eo_ (E : Nat → Nat) (who : Nat) : Nat → Nat
  | 0 => 0
  | n + 1 => if who / 2 ^ n % 2 = 0 then eo_ E who n else eo_ E who n ||| E n
theorem eo_lt {E : Nat → Nat} {who : Nat} (hE : ∀ c, E c < 16) : ∀ n, eo_ E who n < 16
  | 0 => by show 0 < 16; omega
  | n + 1 => by
    unfold eo_
    split
    · exact eo_lt hE n
    · exact or_lt (eo_lt hE n) (hE n)
/-- the first with the fewest, behind 1 -/
def pk2 (good : Nat → Bool) (bc : Nat → Nat) : Nat → Nat
  | 0 => 0
  | n + 1 => if good n = true ∧ (pk2 good bc n = 0 ∨ bc n < bc (pk2 good bc n - 1)) then n + 1 else pk2 good bc n
theorem pk2_is (good : Nat → Bool) (bc : Nat → Nat) : ∀ n, (pk2 good bc n = 0 ∧ ∀ w, w < n → good w = false) ∨ ∃ x, pk2 good bc n = x + 1 ∧ x < n ∧ good x = true ∧ ∀ w, w < n → good w = true → bc x < bc w ∨ (bc x = bc w ∧ x ≤ w)
  | 0 => Or.inl ⟨rfl, fun w hw => absurd hw (Nat.not_lt_zero w)⟩
  | n + 1 => by
    by_cases hg : good n = true
    · rcases pk2_is good bc n with ⟨h0, h1⟩ | ⟨x, h0, h1, h2, h3⟩
      · refine Or.inr ⟨n, ?_, by omega, hg, fun w hw hgw => ?_⟩
        · show (if _ then _ else _) = _
          rw [if_pos ⟨hg, Or.inl h0⟩]
        · rcases Nat.lt_or_ge w n with h | h
          · rw [h1 w h] at hgw; cases hgw
          · right; rw [show w = n by omega]; exact ⟨rfl, Nat.le_refl n⟩
      · by_cases hb : bc n < bc x
        · refine Or.inr ⟨n, ?_, by omega, hg, fun w hw hgw => ?_⟩
          · show (if _ then _ else _) = _
            rw [if_pos ⟨hg, Or.inr (by rw [h0]; exact hb)⟩]
          · rcases Nat.lt_or_ge w n with h | h
            · rcases h3 w h hgw with h | h <;> left <;> omega
            · right; rw [show w = n by omega]; exact ⟨rfl, Nat.le_refl n⟩
        · refine Or.inr ⟨x, ?_, by omega, h2, fun w hw hgw => ?_⟩
          · show (if _ then _ else _) = _
            rw [if_neg, h0]
            rintro ⟨-, h | h⟩
            · omega
            · rw [h0] at h; exact hb h
          · rcases Nat.lt_or_ge w n with h | h
            · exact h3 w h hgw
            · have : w = n := by omega
              rw [this]
              omega
    · have hn : pk2 good bc (n + 1) = pk2 good bc n := by
        show (if _ then _ else _) = _
        rw [if_neg (fun q => hg q.1)]
      rw [hn]
      rcases pk2_is good bc n with ⟨h0, h1⟩ | ⟨x, h0, h1, h2, h3⟩
      · refine Or.inl ⟨h0, fun w hw => ?_⟩
        rcases Nat.lt_or_ge w n with h | h
        · exact h1 w h
        · rw [show w = n by omega]; exact Bool.not_eq_true _ ▸ hg
      · refine Or.inr ⟨x, h0, by omega, h2, fun w hw hgw => ?_⟩
        rcases Nat.lt_or_ge w n with h | h
        · exact h3 w h hgw
        · rw [show w = n by omega] at hgw; exact absurd hgw hg
theorem pk2_un {good : Nat → Bool} {bc : Nat → Nat} {n f : Nat} (hf : f < n) (hg : good f = true) (hm : ∀ w, w < n → good w = true → bc f < bc w ∨ (bc f = bc w ∧ f ≤ w)) : pk2 good bc n = f + 1 := by
  rcases pk2_is good bc n with ⟨h0, h1⟩ | ⟨x, h0, h1, h2, h3⟩
  · rw [h1 f hf] at hg; cases hg
  · rw [h0]
    have a := hm x h1 h2
    have b := h3 f hf hg
    omega
noncomputable def tE (A : sA) (c : Nat) : Nat := sp_end A.1 (aC A) A.2.1 A.2.2.1.1 c
noncomputable def tAll (A : sA) : Nat := eo_ (tE A) (2 ^ A.2.1.1 - 1) 6
noncomputable def tgd (A : sA) (w : Nat) : Bool := decide (eo_ (tE A) w 6 = tAll A)
theorem tgd_eq {A : sA} {w : Nat} (h : tgd A w = true) : eo_ (tE A) w 6 = tAll A := by
  unfold tgd at h
  exact of_decide_eq_true h
theorem sp_p6_lt (n : Nat) : sp_p6 n < 7 := by
  unfold sp_p6
  omega
noncomputable def tF (A : sA) : Nat := pk2 (tgd A) sp_p6 (2 ^ A.2.1.1) - 1
noncomputable def an_together (A : sA) (w : Int32) : Int32 := match ix_ 3 w with
  | none => -2
  | some w => if w = 0 then nI (tAll A) else if w = 1 then nI (tF A) else nI (sp_p6 (tF A))
def d44 (k j : Nat) : Bool := f1_ k j || k == 44
theorem d44_f1 : ∀ k j, d44 k j = false → f1_ k j = false := fun k j h => (Bool.or_eq_false_iff.mp h).1
theorem d44_nr : ∀ k j, nr_s k j = false → d44 k j = false := by
  intro k j h
  unfold d44
  rw [f1_nr k j h]
  cases h43 : k == 44 with
  | true => rw [show k = 44 by simpa using h43] at h; cases h
  | false => rfl
theorem cz_44 : ∀ k j, cz_ k j = false → d44 k j = false := cz_of d44_nr (fun k j h => by unfold d44 f1_; rw [beq_false_of_ne (show k ≠ 13 by omega), beq_false_of_ne (show k ≠ 14 by omega), beq_false_of_ne (show k ≠ 44 by omega)]; rfl)
theorem hb_of {who n m : Nat} (hm : who < 2 ^ m) (h : m ≤ n) : who / 2 ^ n % 2 = 0 := by
  rw [Nat.div_eq_of_lt (Nat.lt_of_lt_of_le hm (Nat.pow_le_pow_right (by decide) h))]
theorem eo_go (dy : List mm_Sh) (g : Nat → Nat → Int32) (r : (Nat → Nat → Int64) × Nat × (Nat → Int32)) {E : Nat → Nat} {N who : Nat} (hE : ∀ c, E c < 16) (hN : N ≤ 6) (h44 : ∀ c, c < N → g 44 c = nI (E c)) (hw : who < 2 ^ N) : ∀ (m k : Nat), k + m = 6 → mm_W 1 M_Sc_endsOf 0 0 (fun v h' => v = some (.int (nI (eo_ E who 6))) ∧ h' = (hp_SH ++ dy, g, r)) 0 0 (4, [some (.ref 0), some (.int (nI who)), some (.int (nI (eo_ E who k))), some (.int (nI k))], [], (hp_SH ++ dy, g, r)) := by
  have h64 := p2_64 hN
  intro m
  induction m with
  | zero =>
    intro k hk
    rw [show k = 6 by omega]
    refine mm_I ok_Sc_endsOf 4 2 7 [some (.ref 0), some (.int (nI who)), some (.int (nI (eo_ E who 6))), some (.int (nI 6))] [.int 6, .int (nI 6)] (hp_SH ++ dy, g, r) [] rfl trivial rfl rfl (fun _ => ?_) (fun q => False.elim (q (by decide)))
    refine mm_B ok_Sc_endsOf 22 1 (34, [some (.ref 0), some (.int (nI who)), some (.int (nI (eo_ E who 6))), some (.int (nI 6))], [.int (nI (eo_ E who 6))], (hp_SH ++ dy, g, r)) [] rfl trivial ?_
    exact mm_ri rfl (mm_at ok_Sc_endsOf (i := 23) rfl).1 ⟨Nat.le_refl _, Nat.le_refl _⟩ (⟨rfl, rfl⟩)
  | succ m ih =>
    intro k hk
    have ih' := ih (k + 1) (by omega)
    rw [show eo_ E who (k + 1) = (if who / 2 ^ k % 2 = 0 then eo_ E who k else eo_ E who k ||| E k) from rfl] at ih'
    have hlt := eo_lt (who := who) hE k
    generalize hst : eo_ E who k = st at ih' hlt ⊢
    refine mm_I ok_Sc_endsOf 4 2 7 [some (.ref 0), some (.int (nI who)), some (.int (nI st)), some (.int (nI k))] [.int 6, .int (nI k)] (hp_SH ++ dy, g, r) [] rfl trivial rfl rfl (fun q => False.elim (nI_ge (b := 6) (show k < 6 by omega) (by decide) q)) (fun _ => ?_)
    refine mm_B ok_Sc_endsOf 7 5 (15, [some (.ref 0), some (.int (nI who)), some (.int (nI st)), some (.int (nI k))], [.int (((nI who) >>> ((nI k) &&& 31)) &&& 1)], (hp_SH ++ dy, g, r)) [] rfl trivial ?_
    rw [bt_t6 who (by omega) k (by omega)]
    refine mm_I ok_Sc_endsOf 12 0 15 [some (.ref 0), some (.int (nI who)), some (.int (nI st)), some (.int (nI k))] [.int (nI (who / 2 ^ k % 2))] (hp_SH ++ dy, g, r) [] rfl trivial rfl rfl (fun hz => ?_) (fun hz => ?_)
    · have hz : who / 2 ^ k % 2 = 0 := by
        rcases Nat.eq_zero_or_pos (who / 2 ^ k % 2) with h | h
        · exact h
        · exact absurd hz (nI_ne0 h (by omega))
      rw [if_pos hz] at ih'
      refine mm_B ok_Sc_endsOf 20 2 (4, [some (.ref 0), some (.int (nI who)), some (.int (nI st)), some (.int ((nI k) + 1))], [], (hp_SH ++ dy, g, r)) [] rfl trivial ?_
      rw [nI_1]
      exact ih'
    · have hz : ¬ who / 2 ^ k % 2 = 0 := fun q => hz (by rw [q]; rfl)
      have hkN : k < N := by
        rcases Nat.lt_or_ge k N with h | h
        · exact h
        · exact absurd (hb_of hw h) hz
      rw [if_neg hz] at ih'
      refine mm_B ok_Sc_endsOf 13 9 (4, [some (.ref 0), some (.int (nI who)), some (.int ((nI st) ||| (g 44 ((nI k).toNatClampNeg)))), some (.int ((nI k) + 1))], [], (hp_SH ++ dy, g, r)) [vp_in (nI k) 6] rfl (show vp_in (nI k) 6 from (nI_vi (show k < 6 by omega) (by decide))) ?_
      rw [nI_1, nI_clamp (show k < 2 ^ 31 by omega), h44 k hkN, or_16 _ hlt _ (hE k)]
      exact ih'
theorem ct_Sc_endsOf (dy : List mm_Sh) (g : Nat → Nat → Int32) (r : (Nat → Nat → Int64) × Nat × (Nat → Int32)) {E : Nat → Nat} {N who : Nat} (hE : ∀ c, E c < 16) (hN : N ≤ 6) (h44 : ∀ c, c < N → g 44 c = nI (E c)) (hw : who < 2 ^ N) : mm_Ct 1 M_Sc_endsOf [.ref 0, .int (nI who)] (hp_SH ++ dy, g, r) 0 0 (fun v h' => v = some (.int (nI (eo_ E who 6))) ∧ h' = (hp_SH ++ dy, g, r)) := by
  refine mm_start pl_Sc (Nat.le_of_ble_eq_true rfl) ?_
  refine mm_B ok_Sc_endsOf 0 4 (4, [some (.ref 0), some (.int (nI who)), some (.int 0), some (.int 0)], [], (hp_SH ++ dy, g, r)) [] rfl trivial ?_
  exact eo_go dy g r hE hN h44 hw 6 0 rfl
theorem tE_lt {A : sA} (h4 : A.1.1 ≤ 4) (c : Nat) : tE A c < 16 := sp_has_lt _ _ _ h4
theorem tg_end (dy : List mm_Sh) (g : Nat → Nat → Int32) (r : (Nat → Nat → Int64) × Nat × (Nat → Int32)) {A : sA} (hI : CI dy (nr_ g) A) {w : Nat} (hw1 : ¬ w = 0) (hw : w < 3) : ∀ (m f : Nat) (g1 : Nat → Nat → Int32), m ≤ 2 ^ A.2.1.1 → fr_ d44 g g1 → (∀ c, c < A.2.1.1 → g1 44 c = nI (tE A c)) → f < 2 ^ A.2.1.1 → tgd A f = true → (∀ w', m ≤ w' → w' < 2 ^ A.2.1.1 → tgd A w' = true → sp_p6 f < sp_p6 w' ∨ (sp_p6 f = sp_p6 w' ∧ f ≤ w')) → mm_W 12 M_Sc_together 0 0 (RC dy g r A (.int (if w = 1 then nI (tF A) else nI (sp_p6 (tF A))))) 0 0 (88, [some (.ref 0), some (.int (nI w)), some (.int (nI (2 ^ A.2.1.1 - 1))), some (.int (nI (tAll A))), some (.int (nI f)), some (.int (nI m - 1))], [], (hp_SH ++ dy, g1, r)) := by
  have h4 := hI.1.2.1
  have h6 := hI.2.1.2.1
  have h64 := p2_64 h6
  intro m
  induction m with
  | zero =>
    intro f g1 hm hF h44 hf hg hmin
    have hpk := pk2_un hf hg (fun w' h1 h2 => hmin w' (Nat.zero_le _) h1 h2)
    have htF : tF A = f := by unfold tF; rw [hpk]; rfl
    rw [htF]
    refine mm_I ok_Sc_together 49 1 90 [some (.ref 0), some (.int (nI w)), some (.int (nI (2 ^ A.2.1.1 - 1))), some (.int (nI (tAll A))), some (.int (nI f)), some (.int (nI 0 - 1))] [.int (nI 0 - 1)] (hp_SH ++ dy, g1, r) [] rfl trivial rfl rfl (fun _ => ?_) (fun q => False.elim (q (by decide)))
    rcases (show w = 1 ∨ w = 2 by omega) with hw | hw
    · subst hw
      rw [if_pos rfl]
      refine mm_I ok_Sc_together 65 2 128 [some (.ref 0), some (.int (nI 1)), some (.int (nI (2 ^ A.2.1.1 - 1))), some (.int (nI (tAll A))), some (.int (nI f)), some (.int (nI 0 - 1))] [.int 1, .int (nI 1)] (hp_SH ++ dy, g1, r) [] rfl trivial rfl rfl (fun q => False.elim (q rfl)) (fun _ => ?_)
      refine mm_B ok_Sc_together 68 2 (141, [some (.ref 0), some (.int (nI 1)), some (.int (nI (2 ^ A.2.1.1 - 1))), some (.int (nI (tAll A))), some (.int (nI f)), some (.int (nI 0 - 1))], [.int (nI f)], (hp_SH ++ dy, g1, r)) [] rfl trivial ?_
      exact mm_ri rfl (mm_at ok_Sc_together (i := 72) rfl).1 ⟨Nat.le_refl _, Nat.le_refl _⟩ (RC_q rfl hI (hF.mono cz_44))
    · subst hw
      rw [if_neg (by decide)]
      refine mm_I ok_Sc_together 65 2 128 [some (.ref 0), some (.int (nI 2)), some (.int (nI (2 ^ A.2.1.1 - 1))), some (.int (nI (tAll A))), some (.int (nI f)), some (.int (nI 0 - 1))] [.int 1, .int (nI 2)] (hp_SH ++ dy, g1, r) [] rfl trivial rfl rfl (fun _ => ?_) (fun q => False.elim (absurd q (by decide)))
      refine mm_B ok_Sc_together 70 1 (138, [some (.ref 0), some (.int (nI 2)), some (.int (nI (2 ^ A.2.1.1 - 1))), some (.int (nI (tAll A))), some (.int (nI f)), some (.int (nI 0 - 1))], [.int (nI f)], (hp_SH ++ dy, g1, r)) [] rfl trivial ?_
      refine mm_cS (as := [.int (nI f)]) (st := []) cw_In_bitCount lk_Sc_237 sx_In_bitCount (mm_at ok_Sc_together (i := 71) rfl).1 (ct_In_bitCount (hp_SH ++ dy, g1, r) (nI f)) (by decide) ⟨by omega, by omega⟩ (Nat.le_of_ble_eq_true rfl) (mm_vs_b (b := 77) rfl (hp_len dy)) (fun v h' hqq => ?_)
      obtain ⟨rfl, hqe⟩ := hqq; rw [hqe, p6_bc f (by omega)]
      exact mm_ri rfl (mm_at ok_Sc_together (i := 72) rfl).1 ⟨Nat.le_refl _, Nat.le_refl _⟩ (RC_q rfl hI (hF.mono cz_44))
  | succ m ih =>
    intro f g1 hm hF h44 hf hg hmin
    rw [nI_pred]
    refine mm_I ok_Sc_together 49 1 90 [some (.ref 0), some (.int (nI w)), some (.int (nI (2 ^ A.2.1.1 - 1))), some (.int (nI (tAll A))), some (.int (nI f)), some (.int (nI m))] [.int (nI m)] (hp_SH ++ dy, g1, r) [] rfl trivial rfl rfl (fun q => False.elim (nI_pos (n := m) (by omega) q)) (fun _ => ?_)
    refine mm_B ok_Sc_together 51 2 (96, [some (.ref 0), some (.int (nI w)), some (.int (nI (2 ^ A.2.1.1 - 1))), some (.int (nI (tAll A))), some (.int (nI f)), some (.int (nI m))], [.int (nI m), .ref 0], (hp_SH ++ dy, g1, r)) [] rfl trivial ?_
    refine mm_cV (as := [.int (nI m)]) (st := []) (q := 0) cw_Sc_endsOf lk_Sc_234 in_Sc_endsOf sl_Sc_endsOf rfl rfl (mm_at ok_Sc_together (i := 53) rfl).1 (ct_Sc_endsOf dy g1 r (tE_lt h4) h6 h44 (who := m) (by omega)) (by decide) ⟨by omega, by omega⟩ (Nat.le_of_ble_eq_true rfl) (mm_vs_b (b := 77) rfl (hp_len dy)) (fun v h' hqq => ?_)
    obtain ⟨rfl, hqe⟩ := hqq; rw [hqe]
    refine mm_I ok_Sc_together 54 1 100 [some (.ref 0), some (.int (nI w)), some (.int (nI (2 ^ A.2.1.1 - 1))), some (.int (nI (tAll A))), some (.int (nI f)), some (.int (nI m))] [.int (nI (tAll A)), .int (nI (eo_ (tE A) m 6))] (hp_SH ++ dy, g1, r) [] rfl trivial rfl rfl (fun hq => ?_) (fun hq => ?_)
    · refine mm_B ok_Sc_together 63 2 (88, [some (.ref 0), some (.int (nI w)), some (.int (nI (2 ^ A.2.1.1 - 1))), some (.int (nI (tAll A))), some (.int (nI f)), some (.int ((nI m) + (-1)))], [], (hp_SH ++ dy, g1, r)) [] rfl trivial ?_
      rw [pm1]
      exact ih f g1 (by omega) hF h44 hf hg (fun w' h1 h2 h3 => by
        rcases Nat.lt_or_ge m w' with h | h
        · exact hmin w' (by omega) h2 h3
        · rw [show w' = m by omega] at h3
          exact absurd (by rw [tgd_eq h3]) hq)
    · have hq2 : eo_ (tE A) m 6 = tAll A := (nI_eq (by have := eo_lt (who := m) (tE_lt h4) 6; omega) (by have := eo_lt (who := 2 ^ A.2.1.1 - 1) (tE_lt h4) 6; unfold tAll; omega)).mp hq
      have hgm : tgd A m = true := decide_eq_true hq2
      have hp1 := sp_p6_lt m
      have hp2 := sp_p6_lt f
      refine mm_B ok_Sc_together 56 1 (105, [some (.ref 0), some (.int (nI w)), some (.int (nI (2 ^ A.2.1.1 - 1))), some (.int (nI (tAll A))), some (.int (nI f)), some (.int (nI m))], [.int (nI m)], (hp_SH ++ dy, g1, r)) [] rfl trivial ?_
      refine mm_cS (as := [.int (nI m)]) (st := []) cw_In_bitCount lk_Sc_237 sx_In_bitCount (mm_at ok_Sc_together (i := 57) rfl).1 (ct_In_bitCount (hp_SH ++ dy, g1, r) (nI m)) (by decide) ⟨by omega, by omega⟩ (Nat.le_of_ble_eq_true rfl) (mm_vs_b (b := 77) rfl (hp_len dy)) (fun v h' hqq => ?_)
      obtain ⟨rfl, hqe⟩ := hqq; rw [hqe, p6_bc m (by omega)]
      refine mm_B ok_Sc_together 58 1 (110, [some (.ref 0), some (.int (nI w)), some (.int (nI (2 ^ A.2.1.1 - 1))), some (.int (nI (tAll A))), some (.int (nI f)), some (.int (nI m))], [.int (nI f), .int (nI (sp_p6 m))], (hp_SH ++ dy, g1, r)) [] rfl trivial ?_
      refine mm_cS (as := [.int (nI f)]) (st := [.int (nI (sp_p6 m))]) cw_In_bitCount lk_Sc_237 sx_In_bitCount (mm_at ok_Sc_together (i := 59) rfl).1 (ct_In_bitCount (hp_SH ++ dy, g1, r) (nI f)) (by decide) ⟨by omega, by omega⟩ (Nat.le_of_ble_eq_true rfl) (mm_vs_b (b := 77) rfl (hp_len dy)) (fun v h' hqq => ?_)
      obtain ⟨rfl, hqe⟩ := hqq; rw [hqe, p6_bc f (by omega)]
      refine mm_I ok_Sc_together 60 0 113 [some (.ref 0), some (.int (nI w)), some (.int (nI (2 ^ A.2.1.1 - 1))), some (.int (nI (tAll A))), some (.int (nI f)), some (.int (nI m))] [.int (nI (sp_p6 f)), .int (nI (sp_p6 m))] (hp_SH ++ dy, g1, r) [] rfl trivial rfl rfl (fun hb => ?_) (fun hb => ?_)
      · have hb := (nI_ltI (by omega) (by omega)).mp hb
        refine mm_B ok_Sc_together 63 2 (88, [some (.ref 0), some (.int (nI w)), some (.int (nI (2 ^ A.2.1.1 - 1))), some (.int (nI (tAll A))), some (.int (nI f)), some (.int ((nI m) + (-1)))], [], (hp_SH ++ dy, g1, r)) [] rfl trivial ?_
        rw [pm1]
        exact ih f g1 (by omega) hF h44 hf hg (fun w' h1 h2 h3 => by
          rcases Nat.lt_or_ge m w' with h | h
          · exact hmin w' (by omega) h2 h3
          · rw [show w' = m by omega]; exact Or.inl hb)
      · have hb := (nI_leI (by omega) (by omega)).mp (Int32.not_lt.mp hb)
        refine mm_B ok_Sc_together 61 4 (88, [some (.ref 0), some (.int (nI w)), some (.int (nI (2 ^ A.2.1.1 - 1))), some (.int (nI (tAll A))), some (.int (nI m)), some (.int ((nI m) + (-1)))], [], (hp_SH ++ dy, g1, r)) [] rfl trivial ?_
        rw [pm1]
        exact ih m g1 (by omega) hF h44 (by omega) hgm (fun w' h1 h2 h3 => by
          rcases Nat.lt_or_ge m w' with h | h
          · have := hmin w' (by omega) h2 h3
            omega
          · rw [show w' = m by omega]; exact Or.inr ⟨rfl, Nat.le_refl m⟩)
theorem tg_fill (dy : List mm_Sh) (g : Nat → Nat → Int32) (r : (Nat → Nat → Int64) × Nat × (Nat → Int32)) {A : sA} (hI : CI dy (nr_ g) A) (hSI : SI A) {w : Nat} (hw : w < 3) : ∀ (m k : Nat) (g1 : Nat → Nat → Int32), k + m = A.2.1.1 → fr_ d44 g g1 → (∀ c, c < k → g1 44 c = nI (tE A c)) → mm_W 12 M_Sc_together 0 0 (RC dy g r A (.int (if w = 0 then nI (tAll A) else if w = 1 then nI (tF A) else nI (sp_p6 (tF A))))) 0 0 (14, [some (.ref 0), some (.int (nI w)), some (.int (nI k)), none, none, none], [], (hp_SH ++ dy, g1, r)) := by
  have hI' := hI
  obtain ⟨hL, hK, hPl, hX, hB, hS, hIm, hFd, hW⟩ := hI'
  have hR := cX_R hX
  have h4 := hL.2.1
  have h6 := hK.2.1
  have h64 := p2_64 h6
  have hpa : (hp_SH ++ dy)[9]? = some (.inl (0, 6)) := (hp_at dy (by decide)).trans rfl
  have hpo : ∀ b l, b < 6 → A.2.2.1.1 b = some l → l < A.1.1 := fun b l hb h => hSI.1 b l hb (Or.inl h)
  intro m
  induction m with
  | zero =>
    intro k g1 hk hF h44
    have e21 : g1 2 1 = nI A.2.1.1 := by rw [nr_at (hF.nr d44_nr (rfl : nr_ g = nr_ g)) 2 1 rfl]; exact hK.1
    refine mm_B ok_Sc_together 9 5 (25, [some (.ref 0), some (.int (nI w)), some (.int (nI k)), none, none, none], [.int (g1 2 1), .int (nI k)], (hp_SH ++ dy, g1, r)) [] rfl trivial ?_
    rw [e21]
    refine mm_I ok_Sc_together 14 0 25 [some (.ref 0), some (.int (nI w)), some (.int (nI k)), none, none, none] [.int (nI A.2.1.1), .int (nI k)] (hp_SH ++ dy, g1, r) [] rfl trivial rfl rfl (fun _ => ?_) (fun q => False.elim (q (nI_le (by omega) (by omega))))
    refine mm_B ok_Sc_together 28 11 (72, [some (.ref 0), some (.int (nI w)), some (.int ((1 <<< ((g1 2 1) &&& 31)) - 1)), none, none, none], [.int ((1 <<< ((g1 2 1) &&& 31)) - 1), .ref 0], (hp_SH ++ dy, g1, r)) [] rfl trivial ?_
    rw [e21, ev_6 _ h6]
    refine mm_cV (as := [.int (nI (2 ^ A.2.1.1 - 1))]) (st := []) (q := 0) cw_Sc_endsOf lk_Sc_234 in_Sc_endsOf sl_Sc_endsOf rfl rfl (mm_at ok_Sc_together (i := 39) rfl).1 (ct_Sc_endsOf dy g1 r (tE_lt h4) h6 (fun c hc => h44 c (by omega)) (who := 2 ^ A.2.1.1 - 1) (by omega)) (by decide) ⟨by omega, by omega⟩ (Nat.le_of_ble_eq_true rfl) (mm_vs_b (b := 77) rfl (hp_len dy)) (fun v h' hqq => ?_)
    obtain ⟨rfl, hqe⟩ := hqq; rw [hqe]
    by_cases hw0 : w = 0
    · subst hw0
      rw [if_pos rfl]
      refine mm_I ok_Sc_together 40 2 77 [some (.ref 0), some (.int (nI 0)), some (.int (nI (2 ^ A.2.1.1 - 1))), some (.int (nI (tAll A))), none, none] [.int (nI 0)] (hp_SH ++ dy, g1, r) [] rfl trivial rfl rfl (fun q => False.elim (q rfl)) (fun _ => ?_)
      refine mm_B ok_Sc_together 43 1 (81, [some (.ref 0), some (.int (nI 0)), some (.int (nI (2 ^ A.2.1.1 - 1))), some (.int (nI (tAll A))), none, none], [.int (nI (tAll A))], (hp_SH ++ dy, g1, r)) [] rfl trivial ?_
      exact mm_ri rfl (mm_at ok_Sc_together (i := 44) rfl).1 ⟨Nat.le_refl _, Nat.le_refl _⟩ (RC_q rfl hI (hF.mono cz_44))
    · rw [if_neg hw0]
      refine mm_I ok_Sc_together 40 2 77 [some (.ref 0), some (.int (nI w)), some (.int (nI (2 ^ A.2.1.1 - 1))), some (.int (nI (tAll A))), none, none] [.int (nI w)] (hp_SH ++ dy, g1, r) [] rfl trivial rfl rfl (fun _ => ?_) (fun q => False.elim (nI_ne0 (by omega) (by omega) q))
      refine mm_B ok_Sc_together 45 4 (88, [some (.ref 0), some (.int (nI w)), some (.int (nI (2 ^ A.2.1.1 - 1))), some (.int (nI (tAll A))), some (.int (nI (2 ^ A.2.1.1 - 1))), some (.int (nI (2 ^ A.2.1.1 - 1)))], [], (hp_SH ++ dy, g1, r)) [] rfl trivial ?_
      have h8 := tg_end dy g r hI hw0 hw (2 ^ A.2.1.1) (2 ^ A.2.1.1 - 1) g1 (Nat.le_refl _) hF (fun c hc => h44 c (by omega)) (by omega) (decide_eq_true rfl) (fun w' h1 h2 => absurd h2 (Nat.not_lt.mpr h1))
      rw [show nI (2 ^ A.2.1.1) - 1 = nI (2 ^ A.2.1.1 - 1) from nI_sub (b := 1) (by omega)] at h8
      exact h8
  | succ m ih =>
    intro k g1 hk hF h44
    have hP1 := hF.nr d44_nr (rfl : nr_ g = nr_ g)
    have e21 : g1 2 1 = nI A.2.1.1 := by rw [nr_at hP1 2 1 rfl]; exact hK.1
    refine mm_B ok_Sc_together 9 5 (25, [some (.ref 0), some (.int (nI w)), some (.int (nI k)), none, none, none], [.int (g1 2 1), .int (nI k)], (hp_SH ++ dy, g1, r)) [] rfl trivial ?_
    rw [e21]
    refine mm_I ok_Sc_together 14 0 25 [some (.ref 0), some (.int (nI w)), some (.int (nI k)), none, none, none] [.int (nI A.2.1.1), .int (nI k)] (hp_SH ++ dy, g1, r) [] rfl trivial rfl rfl (fun q => False.elim (nI_ge (show k < A.2.1.1 by omega) (by omega) q)) (fun _ => ?_)
    refine mm_B ok_Sc_together 15 9 (45, [some (.ref 0), some (.int (nI w)), some (.int (nI k)), none, none, none], [.ref 9, .int (nI k), .ref 0, .int (nI k), .ref 44], (hp_SH ++ dy, g1, r)) [] rfl trivial ?_
    refine mm_cV (as := [.int (nI k), .ref 9]) (st := [.int (nI k), .ref 44]) (q := 0) cw_Sc_ownedAtEnd lk_Sc_231 in_Sc_ownedAtEnd sl_Sc_ownedAtEnd rfl rfl (mm_at ok_Sc_together (i := 24) rfl).1 (ct_Sc_ownedAtEnd dy g1 (nr_ g) r hP1 hR hL hK (c := k) (by omega) hpa (fun _ => rfl) (fun b hb => by rw [nr_at hP1 9 b rfl]; exact (hPl b hb).1) hpo) (by decide) ⟨by omega, by omega⟩ (Nat.le_of_ble_eq_true rfl) (mm_vs_b (b := 77) rfl (hp_len dy)) (fun v h' hqq => ?_)
    obtain ⟨rfl, g2, hqe, hF2⟩ := hqq; rw [hqe]
    refine mm_B ok_Sc_together 25 3 (14, [some (.ref 0), some (.int (nI w)), some (.int ((nI k) + 1)), none, none, none], [], (hp_SH ++ dy, mm_up g2 44 ((nI k).toNatClampNeg) (nI (tE A k)), r)) [vp_in (nI k) 6] rfl (show vp_in (nI k) 6 from (nI_vi (show k < 6 by omega) (by decide))) ?_
    rw [nI_1, nI_clamp (show k < 2 ^ 31 by omega)]
    exact ih (k + 1) _ (by omega) ((hF.tr (hF2.mono d44_f1)).up _ rfl) (fun c hc => by
      by_cases e : c = k
      · rw [e, mm_up_at]
      · rw [mm_up_no e, hF2 44 c rfl]; exact h44 c (by omega))
theorem cc_together (dy : List mm_Sh) (g : Nat → Nat → Int32) (r : (Nat → Nat → Int64) × Nat × (Nat → Int32)) {A : sA} (hI : CI dy (nr_ g) A) (hSI : SI A) (w : Int32) : mm_Ct 12 M_Sc_together [.ref 0, .int w] (hp_SH ++ dy, g, r) 0 0 (RC dy g r A (.int (an_together A w))) := by
  have hI' := hI
  obtain ⟨hL, hK, hPl, hX, hB, hS, hIm, hFd, hW⟩ := hI'
  have hR := cX_R hX
  have h4 := hL.2.1
  have h6 := hK.2.1
  have e20 : g 2 0 = nI A.1.1 := by rw [← nr_eq g (k := 2) (j := 0) rfl]; exact hL.1
  have e21 : g 2 1 = nI A.2.1.1 := by rw [← nr_eq g (k := 2) (j := 1) rfl]; exact hK.1
  have hpa : (hp_SH ++ dy)[9]? = some (.inl (0, 6)) := (hp_at dy (by decide)).trans rfl
  have hpl : ∀ b, b < 6 → g 9 b = pl_c (A.2.2.1.1 b) := fun b hb => by rw [← nr_eq g (k := 9) (j := b) rfl]; exact (hPl b hb).1
  have hot : ∀ b, b < 6 → g 10 b = pl_c (A.2.2.1.2 b) := fun b hb => by rw [← nr_eq g (k := 10) (j := b) rfl]; exact (hPl b hb).2
  have hpo : ∀ b l, b < 6 → A.2.2.1.1 b = some l → l < A.1.1 := fun b l hb h => hSI.1 b l hb (Or.inl h)
  refine mm_start pl_Sc (Nat.le_of_ble_eq_true rfl) ?_
  cases hx1 : ix_ 3 w with
  | none =>
    rw [show an_together A w = (-2) by unfold an_together; rw [hx1]]
    rcases g1_n (by decide) hx1 with hr | hr
    · refine mm_I ok_Sc_together 0 1 1 [some (.ref 0), some (.int w), none, none, none, none] [.int w] (hp_SH ++ dy, g, r) [] rfl trivial rfl rfl (fun _ => ?_) (fun q => False.elim (q hr))
      refine mm_B ok_Sc_together 5 1 (11, [some (.ref 0), some (.int w), none, none, none, none], [.int (-2)], (hp_SH ++ dy, g, r)) [] rfl trivial ?_
      exact mm_ri rfl (mm_at ok_Sc_together (i := 6) rfl).1 ⟨Nat.le_refl _, Nat.le_refl _⟩ (RC_q rfl hI fr_.rf)
    · refine mm_I ok_Sc_together 0 1 1 [some (.ref 0), some (.int w), none, none, none, none] [.int w] (hp_SH ++ dy, g, r) [] rfl trivial rfl rfl (fun q => False.elim (absurd (Int32.lt_trans hr q) (by decide))) (fun _ => ?_)
      refine mm_I ok_Sc_together 2 2 6 [some (.ref 0), some (.int w), none, none, none, none] [.int 2, .int w] (hp_SH ++ dy, g, r) [] rfl trivial rfl rfl (fun q => False.elim (absurd hr (Int32.not_lt.mpr q))) (fun _ => ?_)
      refine mm_B ok_Sc_together 5 1 (11, [some (.ref 0), some (.int w), none, none, none, none], [.int (-2)], (hp_SH ++ dy, g, r)) [] rfl trivial ?_
      exact mm_ri rfl (mm_at ok_Sc_together (i := 6) rfl).1 ⟨Nat.le_refl _, Nat.le_refl _⟩ (RC_q rfl hI fr_.rf)
  | some j =>
    obtain ⟨hl1, rfl⟩ := ix_some (by omega) hx1
    rw [show an_together A (nI j) = (if j = 0 then nI (tAll A) else if j = 1 then nI (tF A) else nI (sp_p6 (tF A))) from by unfold an_together; rw [hx1]]
    refine mm_I ok_Sc_together 0 1 1 [some (.ref 0), some (.int (nI j)), none, none, none, none] [.int (nI j)] (hp_SH ++ dy, g, r) [] rfl trivial rfl rfl (fun q => False.elim (nI_pos (n := j) (by omega) q)) (fun _ => ?_)
    refine mm_I ok_Sc_together 2 2 6 [some (.ref 0), some (.int (nI j)), none, none, none, none] [.int 2, .int (nI j)] (hp_SH ++ dy, g, r) [] rfl trivial rfl rfl (fun _ => ?_) (fun q => False.elim (q (nI_le (b := 2) (by omega) (by decide))))
    refine mm_B ok_Sc_together 7 2 (14, [some (.ref 0), some (.int (nI j)), some (.int 0), none, none, none], [], (hp_SH ++ dy, g, r)) [] rfl trivial ?_
    exact tg_fill dy g r hI hSI hl1 A.2.1.1 0 g (Nat.zero_add _) fr_.rf (fun c hc => absurd hc (Nat.not_lt_zero c))

