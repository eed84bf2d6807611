/-! ===== the program's calls: count, told, taken, points ===== -/
theorem ix_out {n : Nat} {x : Int32} (hn : n < 2 ^ 31) (h : ix_ n x = none) : x.toInt < 0 ∨ (n : Int) ≤ x.toInt := by
  rcases ix_none h with h | h
  · exact Or.inl (by rw [Int32.lt_iff_toInt_lt] at h; exact h)
  · exact Or.inr (by rw [Int32.le_iff_toInt_le, nI_toInt hn] at h; exact h)
/-- kind k is b or under it -/
def un_ (k b : Nat) : Bool := b == 0 || k == b || (k == 3 && b == 1) || (k == 5 && b == 1) || (k == 4 && b == 2)
def an_taken (A : sA) (l k : Int32) : Int32 := match ix_ 6 k, ix_ A.1.1 l with
  | none, _ => -2
  | some _, none => -11
  | some k, some l => if un_ (A.1.2.1 l) k = true then nI (A.1.2.2.1 l) else -13
def an_told (A : sA) (o w : Int32) : Int32 := match ix_ 8 w with
  | none => -2
  | some w => if w < 5 then (match ix_ A.1.1 o with
    | none => -2
    | some l => if w = 0 then nI (A.1.2.1 l) else if w = 1 then nI (A.1.2.2.1 l) else if w = 2 then nI (A.1.2.2.2 l) else if w = 3 then nI (sp_tm (A.1.2.1 l) (A.1.2.2.1 l)) else nI (sp_vl (A.1.2.1 l) (A.1.2.2.1 l)))
    else (match ix_ A.2.1.1 o with
    | none => -2
    | some c => if w = 5 then nI (A.2.1.2.1 c) else if w = 6 then nI (A.2.1.2.2.1 c) else nI (A.2.1.2.2.2 c))
theorem tl_f {T : sp_T} {g : Nat → Nat → Int32} {l : Nat} (h : rl_L T (nr_ g)) (hl : l < T.1) : g 3 (nI l).toNatClampNeg = nI (T.2.1 l) ∧ g 4 (nI l).toNatClampNeg = nI (T.2.2.1 l) ∧ g 5 (nI l).toNatClampNeg = nI (T.2.2.2 l) ∧ T.2.1 l < 6 ∧ T.2.2.1 l < 10 ∧ T.2.2.2 l < 2 ^ l := by
  obtain ⟨a1, a4, a2, a5, a3, a6⟩ := h.2.2.1 l hl
  have := h.2.1
  rw [nI_clamp (show l < 2 ^ 31 by omega), ← nr_eq g (k := 3) (j := l) rfl, ← nr_eq g (k := 4) (j := l) rfl, ← nr_eq g (k := 5) (j := l) rfl]
  exact ⟨a1, a2, a3, a4, by omega, a6⟩
theorem tc_f {K : sp_K} {g : Nat → Nat → Int32} {l : Nat} (h : rl_C K (nr_ g)) (hl : l < K.1) : g 6 (nI l).toNatClampNeg = nI (K.2.1 l) ∧ g 7 (nI l).toNatClampNeg = nI (K.2.2.1 l) ∧ g 8 (nI l).toNatClampNeg = nI (K.2.2.2 l) := by
  obtain ⟨a1, a2, a4, a5, a3⟩ := h.2.2 l hl
  have := h.2.1
  rw [nI_clamp (show l < 2 ^ 31 by omega), ← nr_eq g (k := 6) (j := l) rfl, ← nr_eq g (k := 7) (j := l) rfl, ← nr_eq g (k := 8) (j := l) rfl]
  exact ⟨a1, a2, a3⟩
theorem ct_Sc_isUnder (dy : List mm_Sh) (g : Nat → Nat → Int32) (r : (Nat → Nat → Int64) × Nat × (Nat → Int32)) {q k : Nat} (hq : q < 6) (hk : k < 6) : mm_Ct 1 M_Sc_isUnder [.ref (19 + q), .int (nI k)] (hp_SH ++ dy, g, r) 0 0 (fun v h' => v = some (.int (if un_ q k = true then 1 else 0)) ∧ h' = (hp_SH ++ dy, g, r)) := by
  refine mm_start pl_Sc (Nat.le_of_ble_eq_true rfl) ?_
  rcases (show q = 0 ∨ q = 1 ∨ q = 2 ∨ q = 3 ∨ q = 4 ∨ q = 5 by omega) with rfl | rfl | rfl | rfl | rfl | rfl
  · rcases (show k = 0 ∨ k = 1 ∨ k = 2 ∨ k = 3 ∨ k = 4 ∨ k = 5 by omega) with rfl | rfl | rfl | rfl | rfl | rfl
    · refine mm_B ok_Sc_isUnder 0 1 (1, [some (.ref 19), some (.int (nI 0))], [.int (nI 0)], (hp_SH ++ dy, g, r)) [] rfl trivial ?_
      refine mm_sw (tgt := 61) (mm_at ok_Sc_isUnder (i := 1) rfl).1 (by exact Or.inl ⟨by decide, by decide⟩) ?_
      refine mm_B ok_Sc_isUnder 17 1 (62, [some (.ref 19), some (.int (nI 0))], [.int 1], (hp_SH ++ dy, g, r)) [] rfl trivial ?_
      exact mm_rz rfl (mm_at ok_Sc_isUnder (i := 18) rfl).1 ⟨Nat.le_refl _, Nat.le_refl _⟩ (Or.inr rfl) (⟨rfl, rfl⟩)
    · refine mm_B ok_Sc_isUnder 0 1 (1, [some (.ref 19), some (.int (nI 1))], [.int (nI 1)], (hp_SH ++ dy, g, r)) [] rfl trivial ?_
      refine mm_sw (tgt := 36) (mm_at ok_Sc_isUnder (i := 1) rfl).1 (by exact Or.inr ⟨by decide, _, rfl, by decide⟩) ?_
      refine mm_B ok_Sc_isUnder 2 1 (37, [some (.ref 19), some (.int (nI 1))], [.ref 19], (hp_SH ++ dy, g, r)) [] rfl trivial ?_
      refine mm_inst (h := (hp_SH ++ dy, g, r)) (ci := 2) (r := _) (v := 0) rfl ((hp_at dy (by decide)).trans rfl) kl_Sc_283 (Or.inr (Or.inr ⟨by decide, rfl⟩)) (mm_at ok_Sc_isUnder (i := 3) rfl).1 ?_
      exact mm_rz rfl (mm_at ok_Sc_isUnder (i := 4) rfl).1 ⟨Nat.le_refl _, Nat.le_refl _⟩ (Or.inl rfl) (⟨rfl, rfl⟩)
    · refine mm_B ok_Sc_isUnder 0 1 (1, [some (.ref 19), some (.int (nI 2))], [.int (nI 2)], (hp_SH ++ dy, g, r)) [] rfl trivial ?_
      refine mm_sw (tgt := 41) (mm_at ok_Sc_isUnder (i := 1) rfl).1 (by exact Or.inr ⟨by decide, _, rfl, by decide⟩) ?_
      refine mm_B ok_Sc_isUnder 5 1 (42, [some (.ref 19), some (.int (nI 2))], [.ref 19], (hp_SH ++ dy, g, r)) [] rfl trivial ?_
      refine mm_inst (h := (hp_SH ++ dy, g, r)) (ci := 2) (r := _) (v := 0) rfl ((hp_at dy (by decide)).trans rfl) kl_Sc_285 (Or.inr (Or.inr ⟨by decide, rfl⟩)) (mm_at ok_Sc_isUnder (i := 6) rfl).1 ?_
      exact mm_rz rfl (mm_at ok_Sc_isUnder (i := 7) rfl).1 ⟨Nat.le_refl _, Nat.le_refl _⟩ (Or.inl rfl) (⟨rfl, rfl⟩)
    · refine mm_B ok_Sc_isUnder 0 1 (1, [some (.ref 19), some (.int (nI 3))], [.int (nI 3)], (hp_SH ++ dy, g, r)) [] rfl trivial ?_
      refine mm_sw (tgt := 46) (mm_at ok_Sc_isUnder (i := 1) rfl).1 (by exact Or.inr ⟨by decide, _, rfl, by decide⟩) ?_
      refine mm_B ok_Sc_isUnder 8 1 (47, [some (.ref 19), some (.int (nI 3))], [.ref 19], (hp_SH ++ dy, g, r)) [] rfl trivial ?_
      refine mm_inst (h := (hp_SH ++ dy, g, r)) (ci := 2) (r := _) (v := 0) rfl ((hp_at dy (by decide)).trans rfl) kl_Sc_287 (Or.inr (Or.inr ⟨by decide, rfl⟩)) (mm_at ok_Sc_isUnder (i := 9) rfl).1 ?_
      exact mm_rz rfl (mm_at ok_Sc_isUnder (i := 10) rfl).1 ⟨Nat.le_refl _, Nat.le_refl _⟩ (Or.inl rfl) (⟨rfl, rfl⟩)
    · refine mm_B ok_Sc_isUnder 0 1 (1, [some (.ref 19), some (.int (nI 4))], [.int (nI 4)], (hp_SH ++ dy, g, r)) [] rfl trivial ?_
      refine mm_sw (tgt := 51) (mm_at ok_Sc_isUnder (i := 1) rfl).1 (by exact Or.inr ⟨by decide, _, rfl, by decide⟩) ?_
      refine mm_B ok_Sc_isUnder 11 1 (52, [some (.ref 19), some (.int (nI 4))], [.ref 19], (hp_SH ++ dy, g, r)) [] rfl trivial ?_
      refine mm_inst (h := (hp_SH ++ dy, g, r)) (ci := 2) (r := _) (v := 0) rfl ((hp_at dy (by decide)).trans rfl) kl_Sc_289 (Or.inr (Or.inr ⟨by decide, rfl⟩)) (mm_at ok_Sc_isUnder (i := 12) rfl).1 ?_
      exact mm_rz rfl (mm_at ok_Sc_isUnder (i := 13) rfl).1 ⟨Nat.le_refl _, Nat.le_refl _⟩ (Or.inl rfl) (⟨rfl, rfl⟩)
    · refine mm_B ok_Sc_isUnder 0 1 (1, [some (.ref 19), some (.int (nI 5))], [.int (nI 5)], (hp_SH ++ dy, g, r)) [] rfl trivial ?_
      refine mm_sw (tgt := 56) (mm_at ok_Sc_isUnder (i := 1) rfl).1 (by exact Or.inr ⟨by decide, _, rfl, by decide⟩) ?_
      refine mm_B ok_Sc_isUnder 14 1 (57, [some (.ref 19), some (.int (nI 5))], [.ref 19], (hp_SH ++ dy, g, r)) [] rfl trivial ?_
      refine mm_inst (h := (hp_SH ++ dy, g, r)) (ci := 2) (r := _) (v := 0) rfl ((hp_at dy (by decide)).trans rfl) kl_Sc_291 (Or.inr (Or.inr ⟨by decide, rfl⟩)) (mm_at ok_Sc_isUnder (i := 15) rfl).1 ?_
      exact mm_rz rfl (mm_at ok_Sc_isUnder (i := 16) rfl).1 ⟨Nat.le_refl _, Nat.le_refl _⟩ (Or.inl rfl) (⟨rfl, rfl⟩)
  · rcases (show k = 0 ∨ k = 1 ∨ k = 2 ∨ k = 3 ∨ k = 4 ∨ k = 5 by omega) with rfl | rfl | rfl | rfl | rfl | rfl
    · refine mm_B ok_Sc_isUnder 0 1 (1, [some (.ref 20), some (.int (nI 0))], [.int (nI 0)], (hp_SH ++ dy, g, r)) [] rfl trivial ?_
      refine mm_sw (tgt := 61) (mm_at ok_Sc_isUnder (i := 1) rfl).1 (by exact Or.inl ⟨by decide, by decide⟩) ?_
      refine mm_B ok_Sc_isUnder 17 1 (62, [some (.ref 20), some (.int (nI 0))], [.int 1], (hp_SH ++ dy, g, r)) [] rfl trivial ?_
      exact mm_rz rfl (mm_at ok_Sc_isUnder (i := 18) rfl).1 ⟨Nat.le_refl _, Nat.le_refl _⟩ (Or.inr rfl) (⟨rfl, rfl⟩)
    · refine mm_B ok_Sc_isUnder 0 1 (1, [some (.ref 20), some (.int (nI 1))], [.int (nI 1)], (hp_SH ++ dy, g, r)) [] rfl trivial ?_
      refine mm_sw (tgt := 36) (mm_at ok_Sc_isUnder (i := 1) rfl).1 (by exact Or.inr ⟨by decide, _, rfl, by decide⟩) ?_
      refine mm_B ok_Sc_isUnder 2 1 (37, [some (.ref 20), some (.int (nI 1))], [.ref 20], (hp_SH ++ dy, g, r)) [] rfl trivial ?_
      refine mm_inst (h := (hp_SH ++ dy, g, r)) (ci := 4) (r := _) (v := 1) rfl ((hp_at dy (by decide)).trans rfl) kl_Sc_283 (Or.inl ⟨rfl, rfl⟩) (mm_at ok_Sc_isUnder (i := 3) rfl).1 ?_
      exact mm_rz rfl (mm_at ok_Sc_isUnder (i := 4) rfl).1 ⟨Nat.le_refl _, Nat.le_refl _⟩ (Or.inr rfl) (⟨rfl, rfl⟩)
    · refine mm_B ok_Sc_isUnder 0 1 (1, [some (.ref 20), some (.int (nI 2))], [.int (nI 2)], (hp_SH ++ dy, g, r)) [] rfl trivial ?_
      refine mm_sw (tgt := 41) (mm_at ok_Sc_isUnder (i := 1) rfl).1 (by exact Or.inr ⟨by decide, _, rfl, by decide⟩) ?_
      refine mm_B ok_Sc_isUnder 5 1 (42, [some (.ref 20), some (.int (nI 2))], [.ref 20], (hp_SH ++ dy, g, r)) [] rfl trivial ?_
      refine mm_inst (h := (hp_SH ++ dy, g, r)) (ci := 4) (r := _) (v := 0) rfl ((hp_at dy (by decide)).trans rfl) kl_Sc_285 (Or.inr (Or.inr ⟨by decide, rfl⟩)) (mm_at ok_Sc_isUnder (i := 6) rfl).1 ?_
      exact mm_rz rfl (mm_at ok_Sc_isUnder (i := 7) rfl).1 ⟨Nat.le_refl _, Nat.le_refl _⟩ (Or.inl rfl) (⟨rfl, rfl⟩)
    · refine mm_B ok_Sc_isUnder 0 1 (1, [some (.ref 20), some (.int (nI 3))], [.int (nI 3)], (hp_SH ++ dy, g, r)) [] rfl trivial ?_
      refine mm_sw (tgt := 46) (mm_at ok_Sc_isUnder (i := 1) rfl).1 (by exact Or.inr ⟨by decide, _, rfl, by decide⟩) ?_
      refine mm_B ok_Sc_isUnder 8 1 (47, [some (.ref 20), some (.int (nI 3))], [.ref 20], (hp_SH ++ dy, g, r)) [] rfl trivial ?_
      refine mm_inst (h := (hp_SH ++ dy, g, r)) (ci := 4) (r := _) (v := 0) rfl ((hp_at dy (by decide)).trans rfl) kl_Sc_287 (Or.inr (Or.inr ⟨by decide, rfl⟩)) (mm_at ok_Sc_isUnder (i := 9) rfl).1 ?_
      exact mm_rz rfl (mm_at ok_Sc_isUnder (i := 10) rfl).1 ⟨Nat.le_refl _, Nat.le_refl _⟩ (Or.inl rfl) (⟨rfl, rfl⟩)
    · refine mm_B ok_Sc_isUnder 0 1 (1, [some (.ref 20), some (.int (nI 4))], [.int (nI 4)], (hp_SH ++ dy, g, r)) [] rfl trivial ?_
      refine mm_sw (tgt := 51) (mm_at ok_Sc_isUnder (i := 1) rfl).1 (by exact Or.inr ⟨by decide, _, rfl, by decide⟩) ?_
      refine mm_B ok_Sc_isUnder 11 1 (52, [some (.ref 20), some (.int (nI 4))], [.ref 20], (hp_SH ++ dy, g, r)) [] rfl trivial ?_
      refine mm_inst (h := (hp_SH ++ dy, g, r)) (ci := 4) (r := _) (v := 0) rfl ((hp_at dy (by decide)).trans rfl) kl_Sc_289 (Or.inr (Or.inr ⟨by decide, rfl⟩)) (mm_at ok_Sc_isUnder (i := 12) rfl).1 ?_
      exact mm_rz rfl (mm_at ok_Sc_isUnder (i := 13) rfl).1 ⟨Nat.le_refl _, Nat.le_refl _⟩ (Or.inl rfl) (⟨rfl, rfl⟩)
    · refine mm_B ok_Sc_isUnder 0 1 (1, [some (.ref 20), some (.int (nI 5))], [.int (nI 5)], (hp_SH ++ dy, g, r)) [] rfl trivial ?_
      refine mm_sw (tgt := 56) (mm_at ok_Sc_isUnder (i := 1) rfl).1 (by exact Or.inr ⟨by decide, _, rfl, by decide⟩) ?_
      refine mm_B ok_Sc_isUnder 14 1 (57, [some (.ref 20), some (.int (nI 5))], [.ref 20], (hp_SH ++ dy, g, r)) [] rfl trivial ?_
      refine mm_inst (h := (hp_SH ++ dy, g, r)) (ci := 4) (r := _) (v := 0) rfl ((hp_at dy (by decide)).trans rfl) kl_Sc_291 (Or.inr (Or.inr ⟨by decide, rfl⟩)) (mm_at ok_Sc_isUnder (i := 15) rfl).1 ?_
      exact mm_rz rfl (mm_at ok_Sc_isUnder (i := 16) rfl).1 ⟨Nat.le_refl _, Nat.le_refl _⟩ (Or.inl rfl) (⟨rfl, rfl⟩)
  · rcases (show k = 0 ∨ k = 1 ∨ k = 2 ∨ k = 3 ∨ k = 4 ∨ k = 5 by omega) with rfl | rfl | rfl | rfl | rfl | rfl
    · refine mm_B ok_Sc_isUnder 0 1 (1, [some (.ref 21), some (.int (nI 0))], [.int (nI 0)], (hp_SH ++ dy, g, r)) [] rfl trivial ?_
      refine mm_sw (tgt := 61) (mm_at ok_Sc_isUnder (i := 1) rfl).1 (by exact Or.inl ⟨by decide, by decide⟩) ?_
      refine mm_B ok_Sc_isUnder 17 1 (62, [some (.ref 21), some (.int (nI 0))], [.int 1], (hp_SH ++ dy, g, r)) [] rfl trivial ?_
      exact mm_rz rfl (mm_at ok_Sc_isUnder (i := 18) rfl).1 ⟨Nat.le_refl _, Nat.le_refl _⟩ (Or.inr rfl) (⟨rfl, rfl⟩)
    · refine mm_B ok_Sc_isUnder 0 1 (1, [some (.ref 21), some (.int (nI 1))], [.int (nI 1)], (hp_SH ++ dy, g, r)) [] rfl trivial ?_
      refine mm_sw (tgt := 36) (mm_at ok_Sc_isUnder (i := 1) rfl).1 (by exact Or.inr ⟨by decide, _, rfl, by decide⟩) ?_
      refine mm_B ok_Sc_isUnder 2 1 (37, [some (.ref 21), some (.int (nI 1))], [.ref 21], (hp_SH ++ dy, g, r)) [] rfl trivial ?_
      refine mm_inst (h := (hp_SH ++ dy, g, r)) (ci := 3) (r := _) (v := 0) rfl ((hp_at dy (by decide)).trans rfl) kl_Sc_283 (Or.inr (Or.inr ⟨by decide, rfl⟩)) (mm_at ok_Sc_isUnder (i := 3) rfl).1 ?_
      exact mm_rz rfl (mm_at ok_Sc_isUnder (i := 4) rfl).1 ⟨Nat.le_refl _, Nat.le_refl _⟩ (Or.inl rfl) (⟨rfl, rfl⟩)
    · refine mm_B ok_Sc_isUnder 0 1 (1, [some (.ref 21), some (.int (nI 2))], [.int (nI 2)], (hp_SH ++ dy, g, r)) [] rfl trivial ?_
      refine mm_sw (tgt := 41) (mm_at ok_Sc_isUnder (i := 1) rfl).1 (by exact Or.inr ⟨by decide, _, rfl, by decide⟩) ?_
      refine mm_B ok_Sc_isUnder 5 1 (42, [some (.ref 21), some (.int (nI 2))], [.ref 21], (hp_SH ++ dy, g, r)) [] rfl trivial ?_
      refine mm_inst (h := (hp_SH ++ dy, g, r)) (ci := 3) (r := _) (v := 1) rfl ((hp_at dy (by decide)).trans rfl) kl_Sc_285 (Or.inl ⟨rfl, rfl⟩) (mm_at ok_Sc_isUnder (i := 6) rfl).1 ?_
      exact mm_rz rfl (mm_at ok_Sc_isUnder (i := 7) rfl).1 ⟨Nat.le_refl _, Nat.le_refl _⟩ (Or.inr rfl) (⟨rfl, rfl⟩)
    · refine mm_B ok_Sc_isUnder 0 1 (1, [some (.ref 21), some (.int (nI 3))], [.int (nI 3)], (hp_SH ++ dy, g, r)) [] rfl trivial ?_
      refine mm_sw (tgt := 46) (mm_at ok_Sc_isUnder (i := 1) rfl).1 (by exact Or.inr ⟨by decide, _, rfl, by decide⟩) ?_
      refine mm_B ok_Sc_isUnder 8 1 (47, [some (.ref 21), some (.int (nI 3))], [.ref 21], (hp_SH ++ dy, g, r)) [] rfl trivial ?_
      refine mm_inst (h := (hp_SH ++ dy, g, r)) (ci := 3) (r := _) (v := 0) rfl ((hp_at dy (by decide)).trans rfl) kl_Sc_287 (Or.inr (Or.inr ⟨by decide, rfl⟩)) (mm_at ok_Sc_isUnder (i := 9) rfl).1 ?_
      exact mm_rz rfl (mm_at ok_Sc_isUnder (i := 10) rfl).1 ⟨Nat.le_refl _, Nat.le_refl _⟩ (Or.inl rfl) (⟨rfl, rfl⟩)
    · refine mm_B ok_Sc_isUnder 0 1 (1, [some (.ref 21), some (.int (nI 4))], [.int (nI 4)], (hp_SH ++ dy, g, r)) [] rfl trivial ?_
      refine mm_sw (tgt := 51) (mm_at ok_Sc_isUnder (i := 1) rfl).1 (by exact Or.inr ⟨by decide, _, rfl, by decide⟩) ?_
      refine mm_B ok_Sc_isUnder 11 1 (52, [some (.ref 21), some (.int (nI 4))], [.ref 21], (hp_SH ++ dy, g, r)) [] rfl trivial ?_
      refine mm_inst (h := (hp_SH ++ dy, g, r)) (ci := 3) (r := _) (v := 0) rfl ((hp_at dy (by decide)).trans rfl) kl_Sc_289 (Or.inr (Or.inr ⟨by decide, rfl⟩)) (mm_at ok_Sc_isUnder (i := 12) rfl).1 ?_
      exact mm_rz rfl (mm_at ok_Sc_isUnder (i := 13) rfl).1 ⟨Nat.le_refl _, Nat.le_refl _⟩ (Or.inl rfl) (⟨rfl, rfl⟩)
    · refine mm_B ok_Sc_isUnder 0 1 (1, [some (.ref 21), some (.int (nI 5))], [.int (nI 5)], (hp_SH ++ dy, g, r)) [] rfl trivial ?_
      refine mm_sw (tgt := 56) (mm_at ok_Sc_isUnder (i := 1) rfl).1 (by exact Or.inr ⟨by decide, _, rfl, by decide⟩) ?_
      refine mm_B ok_Sc_isUnder 14 1 (57, [some (.ref 21), some (.int (nI 5))], [.ref 21], (hp_SH ++ dy, g, r)) [] rfl trivial ?_
      refine mm_inst (h := (hp_SH ++ dy, g, r)) (ci := 3) (r := _) (v := 0) rfl ((hp_at dy (by decide)).trans rfl) kl_Sc_291 (Or.inr (Or.inr ⟨by decide, rfl⟩)) (mm_at ok_Sc_isUnder (i := 15) rfl).1 ?_
      exact mm_rz rfl (mm_at ok_Sc_isUnder (i := 16) rfl).1 ⟨Nat.le_refl _, Nat.le_refl _⟩ (Or.inl rfl) (⟨rfl, rfl⟩)
  · rcases (show k = 0 ∨ k = 1 ∨ k = 2 ∨ k = 3 ∨ k = 4 ∨ k = 5 by omega) with rfl | rfl | rfl | rfl | rfl | rfl
    · refine mm_B ok_Sc_isUnder 0 1 (1, [some (.ref 22), some (.int (nI 0))], [.int (nI 0)], (hp_SH ++ dy, g, r)) [] rfl trivial ?_
      refine mm_sw (tgt := 61) (mm_at ok_Sc_isUnder (i := 1) rfl).1 (by exact Or.inl ⟨by decide, by decide⟩) ?_
      refine mm_B ok_Sc_isUnder 17 1 (62, [some (.ref 22), some (.int (nI 0))], [.int 1], (hp_SH ++ dy, g, r)) [] rfl trivial ?_
      exact mm_rz rfl (mm_at ok_Sc_isUnder (i := 18) rfl).1 ⟨Nat.le_refl _, Nat.le_refl _⟩ (Or.inr rfl) (⟨rfl, rfl⟩)
    · refine mm_B ok_Sc_isUnder 0 1 (1, [some (.ref 22), some (.int (nI 1))], [.int (nI 1)], (hp_SH ++ dy, g, r)) [] rfl trivial ?_
      refine mm_sw (tgt := 36) (mm_at ok_Sc_isUnder (i := 1) rfl).1 (by exact Or.inr ⟨by decide, _, rfl, by decide⟩) ?_
      refine mm_B ok_Sc_isUnder 2 1 (37, [some (.ref 22), some (.int (nI 1))], [.ref 22], (hp_SH ++ dy, g, r)) [] rfl trivial ?_
      refine mm_inst (h := (hp_SH ++ dy, g, r)) (ci := 1) (r := _) (v := 1) rfl ((hp_at dy (by decide)).trans rfl) kl_Sc_283 (Or.inr (Or.inl ⟨ca_Hk_Lo, rfl⟩)) (mm_at ok_Sc_isUnder (i := 3) rfl).1 ?_
      exact mm_rz rfl (mm_at ok_Sc_isUnder (i := 4) rfl).1 ⟨Nat.le_refl _, Nat.le_refl _⟩ (Or.inr rfl) (⟨rfl, rfl⟩)
    · refine mm_B ok_Sc_isUnder 0 1 (1, [some (.ref 22), some (.int (nI 2))], [.int (nI 2)], (hp_SH ++ dy, g, r)) [] rfl trivial ?_
      refine mm_sw (tgt := 41) (mm_at ok_Sc_isUnder (i := 1) rfl).1 (by exact Or.inr ⟨by decide, _, rfl, by decide⟩) ?_
      refine mm_B ok_Sc_isUnder 5 1 (42, [some (.ref 22), some (.int (nI 2))], [.ref 22], (hp_SH ++ dy, g, r)) [] rfl trivial ?_
      refine mm_inst (h := (hp_SH ++ dy, g, r)) (ci := 1) (r := _) (v := 0) rfl ((hp_at dy (by decide)).trans rfl) kl_Sc_285 (Or.inr (Or.inr ⟨by decide, rfl⟩)) (mm_at ok_Sc_isUnder (i := 6) rfl).1 ?_
      exact mm_rz rfl (mm_at ok_Sc_isUnder (i := 7) rfl).1 ⟨Nat.le_refl _, Nat.le_refl _⟩ (Or.inl rfl) (⟨rfl, rfl⟩)
    · refine mm_B ok_Sc_isUnder 0 1 (1, [some (.ref 22), some (.int (nI 3))], [.int (nI 3)], (hp_SH ++ dy, g, r)) [] rfl trivial ?_
      refine mm_sw (tgt := 46) (mm_at ok_Sc_isUnder (i := 1) rfl).1 (by exact Or.inr ⟨by decide, _, rfl, by decide⟩) ?_
      refine mm_B ok_Sc_isUnder 8 1 (47, [some (.ref 22), some (.int (nI 3))], [.ref 22], (hp_SH ++ dy, g, r)) [] rfl trivial ?_
      refine mm_inst (h := (hp_SH ++ dy, g, r)) (ci := 1) (r := _) (v := 1) rfl ((hp_at dy (by decide)).trans rfl) kl_Sc_287 (Or.inl ⟨rfl, rfl⟩) (mm_at ok_Sc_isUnder (i := 9) rfl).1 ?_
      exact mm_rz rfl (mm_at ok_Sc_isUnder (i := 10) rfl).1 ⟨Nat.le_refl _, Nat.le_refl _⟩ (Or.inr rfl) (⟨rfl, rfl⟩)
    · refine mm_B ok_Sc_isUnder 0 1 (1, [some (.ref 22), some (.int (nI 4))], [.int (nI 4)], (hp_SH ++ dy, g, r)) [] rfl trivial ?_
      refine mm_sw (tgt := 51) (mm_at ok_Sc_isUnder (i := 1) rfl).1 (by exact Or.inr ⟨by decide, _, rfl, by decide⟩) ?_
      refine mm_B ok_Sc_isUnder 11 1 (52, [some (.ref 22), some (.int (nI 4))], [.ref 22], (hp_SH ++ dy, g, r)) [] rfl trivial ?_
      refine mm_inst (h := (hp_SH ++ dy, g, r)) (ci := 1) (r := _) (v := 0) rfl ((hp_at dy (by decide)).trans rfl) kl_Sc_289 (Or.inr (Or.inr ⟨by decide, rfl⟩)) (mm_at ok_Sc_isUnder (i := 12) rfl).1 ?_
      exact mm_rz rfl (mm_at ok_Sc_isUnder (i := 13) rfl).1 ⟨Nat.le_refl _, Nat.le_refl _⟩ (Or.inl rfl) (⟨rfl, rfl⟩)
    · refine mm_B ok_Sc_isUnder 0 1 (1, [some (.ref 22), some (.int (nI 5))], [.int (nI 5)], (hp_SH ++ dy, g, r)) [] rfl trivial ?_
      refine mm_sw (tgt := 56) (mm_at ok_Sc_isUnder (i := 1) rfl).1 (by exact Or.inr ⟨by decide, _, rfl, by decide⟩) ?_
      refine mm_B ok_Sc_isUnder 14 1 (57, [some (.ref 22), some (.int (nI 5))], [.ref 22], (hp_SH ++ dy, g, r)) [] rfl trivial ?_
      refine mm_inst (h := (hp_SH ++ dy, g, r)) (ci := 1) (r := _) (v := 0) rfl ((hp_at dy (by decide)).trans rfl) kl_Sc_291 (Or.inr (Or.inr ⟨by decide, rfl⟩)) (mm_at ok_Sc_isUnder (i := 15) rfl).1 ?_
      exact mm_rz rfl (mm_at ok_Sc_isUnder (i := 16) rfl).1 ⟨Nat.le_refl _, Nat.le_refl _⟩ (Or.inl rfl) (⟨rfl, rfl⟩)
  · rcases (show k = 0 ∨ k = 1 ∨ k = 2 ∨ k = 3 ∨ k = 4 ∨ k = 5 by omega) with rfl | rfl | rfl | rfl | rfl | rfl
    · refine mm_B ok_Sc_isUnder 0 1 (1, [some (.ref 23), some (.int (nI 0))], [.int (nI 0)], (hp_SH ++ dy, g, r)) [] rfl trivial ?_
      refine mm_sw (tgt := 61) (mm_at ok_Sc_isUnder (i := 1) rfl).1 (by exact Or.inl ⟨by decide, by decide⟩) ?_
      refine mm_B ok_Sc_isUnder 17 1 (62, [some (.ref 23), some (.int (nI 0))], [.int 1], (hp_SH ++ dy, g, r)) [] rfl trivial ?_
      exact mm_rz rfl (mm_at ok_Sc_isUnder (i := 18) rfl).1 ⟨Nat.le_refl _, Nat.le_refl _⟩ (Or.inr rfl) (⟨rfl, rfl⟩)
    · refine mm_B ok_Sc_isUnder 0 1 (1, [some (.ref 23), some (.int (nI 1))], [.int (nI 1)], (hp_SH ++ dy, g, r)) [] rfl trivial ?_
      refine mm_sw (tgt := 36) (mm_at ok_Sc_isUnder (i := 1) rfl).1 (by exact Or.inr ⟨by decide, _, rfl, by decide⟩) ?_
      refine mm_B ok_Sc_isUnder 2 1 (37, [some (.ref 23), some (.int (nI 1))], [.ref 23], (hp_SH ++ dy, g, r)) [] rfl trivial ?_
      refine mm_inst (h := (hp_SH ++ dy, g, r)) (ci := 8) (r := _) (v := 0) rfl ((hp_at dy (by decide)).trans rfl) kl_Sc_283 (Or.inr (Or.inr ⟨by decide, rfl⟩)) (mm_at ok_Sc_isUnder (i := 3) rfl).1 ?_
      exact mm_rz rfl (mm_at ok_Sc_isUnder (i := 4) rfl).1 ⟨Nat.le_refl _, Nat.le_refl _⟩ (Or.inl rfl) (⟨rfl, rfl⟩)
    · refine mm_B ok_Sc_isUnder 0 1 (1, [some (.ref 23), some (.int (nI 2))], [.int (nI 2)], (hp_SH ++ dy, g, r)) [] rfl trivial ?_
      refine mm_sw (tgt := 41) (mm_at ok_Sc_isUnder (i := 1) rfl).1 (by exact Or.inr ⟨by decide, _, rfl, by decide⟩) ?_
      refine mm_B ok_Sc_isUnder 5 1 (42, [some (.ref 23), some (.int (nI 2))], [.ref 23], (hp_SH ++ dy, g, r)) [] rfl trivial ?_
      refine mm_inst (h := (hp_SH ++ dy, g, r)) (ci := 8) (r := _) (v := 1) rfl ((hp_at dy (by decide)).trans rfl) kl_Sc_285 (Or.inr (Or.inl ⟨ca_So_Li, rfl⟩)) (mm_at ok_Sc_isUnder (i := 6) rfl).1 ?_
      exact mm_rz rfl (mm_at ok_Sc_isUnder (i := 7) rfl).1 ⟨Nat.le_refl _, Nat.le_refl _⟩ (Or.inr rfl) (⟨rfl, rfl⟩)
    · refine mm_B ok_Sc_isUnder 0 1 (1, [some (.ref 23), some (.int (nI 3))], [.int (nI 3)], (hp_SH ++ dy, g, r)) [] rfl trivial ?_
      refine mm_sw (tgt := 46) (mm_at ok_Sc_isUnder (i := 1) rfl).1 (by exact Or.inr ⟨by decide, _, rfl, by decide⟩) ?_
      refine mm_B ok_Sc_isUnder 8 1 (47, [some (.ref 23), some (.int (nI 3))], [.ref 23], (hp_SH ++ dy, g, r)) [] rfl trivial ?_
      refine mm_inst (h := (hp_SH ++ dy, g, r)) (ci := 8) (r := _) (v := 0) rfl ((hp_at dy (by decide)).trans rfl) kl_Sc_287 (Or.inr (Or.inr ⟨by decide, rfl⟩)) (mm_at ok_Sc_isUnder (i := 9) rfl).1 ?_
      exact mm_rz rfl (mm_at ok_Sc_isUnder (i := 10) rfl).1 ⟨Nat.le_refl _, Nat.le_refl _⟩ (Or.inl rfl) (⟨rfl, rfl⟩)
    · refine mm_B ok_Sc_isUnder 0 1 (1, [some (.ref 23), some (.int (nI 4))], [.int (nI 4)], (hp_SH ++ dy, g, r)) [] rfl trivial ?_
      refine mm_sw (tgt := 51) (mm_at ok_Sc_isUnder (i := 1) rfl).1 (by exact Or.inr ⟨by decide, _, rfl, by decide⟩) ?_
      refine mm_B ok_Sc_isUnder 11 1 (52, [some (.ref 23), some (.int (nI 4))], [.ref 23], (hp_SH ++ dy, g, r)) [] rfl trivial ?_
      refine mm_inst (h := (hp_SH ++ dy, g, r)) (ci := 8) (r := _) (v := 1) rfl ((hp_at dy (by decide)).trans rfl) kl_Sc_289 (Or.inl ⟨rfl, rfl⟩) (mm_at ok_Sc_isUnder (i := 12) rfl).1 ?_
      exact mm_rz rfl (mm_at ok_Sc_isUnder (i := 13) rfl).1 ⟨Nat.le_refl _, Nat.le_refl _⟩ (Or.inr rfl) (⟨rfl, rfl⟩)
    · refine mm_B ok_Sc_isUnder 0 1 (1, [some (.ref 23), some (.int (nI 5))], [.int (nI 5)], (hp_SH ++ dy, g, r)) [] rfl trivial ?_
      refine mm_sw (tgt := 56) (mm_at ok_Sc_isUnder (i := 1) rfl).1 (by exact Or.inr ⟨by decide, _, rfl, by decide⟩) ?_
      refine mm_B ok_Sc_isUnder 14 1 (57, [some (.ref 23), some (.int (nI 5))], [.ref 23], (hp_SH ++ dy, g, r)) [] rfl trivial ?_
      refine mm_inst (h := (hp_SH ++ dy, g, r)) (ci := 8) (r := _) (v := 0) rfl ((hp_at dy (by decide)).trans rfl) kl_Sc_291 (Or.inr (Or.inr ⟨by decide, rfl⟩)) (mm_at ok_Sc_isUnder (i := 15) rfl).1 ?_
      exact mm_rz rfl (mm_at ok_Sc_isUnder (i := 16) rfl).1 ⟨Nat.le_refl _, Nat.le_refl _⟩ (Or.inl rfl) (⟨rfl, rfl⟩)
  · rcases (show k = 0 ∨ k = 1 ∨ k = 2 ∨ k = 3 ∨ k = 4 ∨ k = 5 by omega) with rfl | rfl | rfl | rfl | rfl | rfl
    · refine mm_B ok_Sc_isUnder 0 1 (1, [some (.ref 24), some (.int (nI 0))], [.int (nI 0)], (hp_SH ++ dy, g, r)) [] rfl trivial ?_
      refine mm_sw (tgt := 61) (mm_at ok_Sc_isUnder (i := 1) rfl).1 (by exact Or.inl ⟨by decide, by decide⟩) ?_
      refine mm_B ok_Sc_isUnder 17 1 (62, [some (.ref 24), some (.int (nI 0))], [.int 1], (hp_SH ++ dy, g, r)) [] rfl trivial ?_
      exact mm_rz rfl (mm_at ok_Sc_isUnder (i := 18) rfl).1 ⟨Nat.le_refl _, Nat.le_refl _⟩ (Or.inr rfl) (⟨rfl, rfl⟩)
    · refine mm_B ok_Sc_isUnder 0 1 (1, [some (.ref 24), some (.int (nI 1))], [.int (nI 1)], (hp_SH ++ dy, g, r)) [] rfl trivial ?_
      refine mm_sw (tgt := 36) (mm_at ok_Sc_isUnder (i := 1) rfl).1 (by exact Or.inr ⟨by decide, _, rfl, by decide⟩) ?_
      refine mm_B ok_Sc_isUnder 2 1 (37, [some (.ref 24), some (.int (nI 1))], [.ref 24], (hp_SH ++ dy, g, r)) [] rfl trivial ?_
      refine mm_inst (h := (hp_SH ++ dy, g, r)) (ci := 5) (r := _) (v := 1) rfl ((hp_at dy (by decide)).trans rfl) kl_Sc_283 (Or.inr (Or.inl ⟨ca_Pk_Lo, rfl⟩)) (mm_at ok_Sc_isUnder (i := 3) rfl).1 ?_
      exact mm_rz rfl (mm_at ok_Sc_isUnder (i := 4) rfl).1 ⟨Nat.le_refl _, Nat.le_refl _⟩ (Or.inr rfl) (⟨rfl, rfl⟩)
    · refine mm_B ok_Sc_isUnder 0 1 (1, [some (.ref 24), some (.int (nI 2))], [.int (nI 2)], (hp_SH ++ dy, g, r)) [] rfl trivial ?_
      refine mm_sw (tgt := 41) (mm_at ok_Sc_isUnder (i := 1) rfl).1 (by exact Or.inr ⟨by decide, _, rfl, by decide⟩) ?_
      refine mm_B ok_Sc_isUnder 5 1 (42, [some (.ref 24), some (.int (nI 2))], [.ref 24], (hp_SH ++ dy, g, r)) [] rfl trivial ?_
      refine mm_inst (h := (hp_SH ++ dy, g, r)) (ci := 5) (r := _) (v := 0) rfl ((hp_at dy (by decide)).trans rfl) kl_Sc_285 (Or.inr (Or.inr ⟨by decide, rfl⟩)) (mm_at ok_Sc_isUnder (i := 6) rfl).1 ?_
      exact mm_rz rfl (mm_at ok_Sc_isUnder (i := 7) rfl).1 ⟨Nat.le_refl _, Nat.le_refl _⟩ (Or.inl rfl) (⟨rfl, rfl⟩)
    · refine mm_B ok_Sc_isUnder 0 1 (1, [some (.ref 24), some (.int (nI 3))], [.int (nI 3)], (hp_SH ++ dy, g, r)) [] rfl trivial ?_
      refine mm_sw (tgt := 46) (mm_at ok_Sc_isUnder (i := 1) rfl).1 (by exact Or.inr ⟨by decide, _, rfl, by decide⟩) ?_
      refine mm_B ok_Sc_isUnder 8 1 (47, [some (.ref 24), some (.int (nI 3))], [.ref 24], (hp_SH ++ dy, g, r)) [] rfl trivial ?_
      refine mm_inst (h := (hp_SH ++ dy, g, r)) (ci := 5) (r := _) (v := 0) rfl ((hp_at dy (by decide)).trans rfl) kl_Sc_287 (Or.inr (Or.inr ⟨by decide, rfl⟩)) (mm_at ok_Sc_isUnder (i := 9) rfl).1 ?_
      exact mm_rz rfl (mm_at ok_Sc_isUnder (i := 10) rfl).1 ⟨Nat.le_refl _, Nat.le_refl _⟩ (Or.inl rfl) (⟨rfl, rfl⟩)
    · refine mm_B ok_Sc_isUnder 0 1 (1, [some (.ref 24), some (.int (nI 4))], [.int (nI 4)], (hp_SH ++ dy, g, r)) [] rfl trivial ?_
      refine mm_sw (tgt := 51) (mm_at ok_Sc_isUnder (i := 1) rfl).1 (by exact Or.inr ⟨by decide, _, rfl, by decide⟩) ?_
      refine mm_B ok_Sc_isUnder 11 1 (52, [some (.ref 24), some (.int (nI 4))], [.ref 24], (hp_SH ++ dy, g, r)) [] rfl trivial ?_
      refine mm_inst (h := (hp_SH ++ dy, g, r)) (ci := 5) (r := _) (v := 0) rfl ((hp_at dy (by decide)).trans rfl) kl_Sc_289 (Or.inr (Or.inr ⟨by decide, rfl⟩)) (mm_at ok_Sc_isUnder (i := 12) rfl).1 ?_
      exact mm_rz rfl (mm_at ok_Sc_isUnder (i := 13) rfl).1 ⟨Nat.le_refl _, Nat.le_refl _⟩ (Or.inl rfl) (⟨rfl, rfl⟩)
    · refine mm_B ok_Sc_isUnder 0 1 (1, [some (.ref 24), some (.int (nI 5))], [.int (nI 5)], (hp_SH ++ dy, g, r)) [] rfl trivial ?_
      refine mm_sw (tgt := 56) (mm_at ok_Sc_isUnder (i := 1) rfl).1 (by exact Or.inr ⟨by decide, _, rfl, by decide⟩) ?_
      refine mm_B ok_Sc_isUnder 14 1 (57, [some (.ref 24), some (.int (nI 5))], [.ref 24], (hp_SH ++ dy, g, r)) [] rfl trivial ?_
      refine mm_inst (h := (hp_SH ++ dy, g, r)) (ci := 5) (r := _) (v := 1) rfl ((hp_at dy (by decide)).trans rfl) kl_Sc_291 (Or.inl ⟨rfl, rfl⟩) (mm_at ok_Sc_isUnder (i := 15) rfl).1 ?_
      exact mm_rz rfl (mm_at ok_Sc_isUnder (i := 16) rfl).1 ⟨Nat.le_refl _, Nat.le_refl _⟩ (Or.inr rfl) (⟨rfl, rfl⟩)
theorem cc_taken (dy : List mm_Sh) (g : Nat → Nat → Int32) (r : (Nat → Nat → Int64) × Nat × (Nat → Int32)) {A : sA} (hI : CI dy (nr_ g) A) (hSI : SI A) (l k : Int32) : mm_Ct 12 M_Sc_taken [.ref 0, .int l, .int k] (hp_SH ++ dy, g, r) 0 0 (RC dy g r A (.int (an_taken A l k))) := by
  have hI' := hI
  obtain ⟨hL, hK, hPl, hX, hB, hS, hIm, hFd, hW⟩ := hI'
  have hR := cX_R hX
  have h4 := hL.2.1
  have h6 := hK.2.1
  have e20 : g 2 0 = nI A.1.1 := by rw [← nr_eq g (k := 2) (j := 0) rfl]; exact hL.1
  have e21 : g 2 1 = nI A.2.1.1 := by rw [← nr_eq g (k := 2) (j := 1) rfl]; exact hK.1
  have hpa : (hp_SH ++ dy)[9]? = some (.inl (0, 6)) := (hp_at dy (by decide)).trans rfl
  have hpl : ∀ b, b < 6 → g 9 b = pl_c (A.2.2.1.1 b) := fun b hb => by rw [← nr_eq g (k := 9) (j := b) rfl]; exact (hPl b hb).1
  have hot : ∀ b, b < 6 → g 10 b = pl_c (A.2.2.1.2 b) := fun b hb => by rw [← nr_eq g (k := 10) (j := b) rfl]; exact (hPl b hb).2
  have hpo : ∀ b l, b < 6 → A.2.2.1.1 b = some l → l < A.1.1 := fun b l hb h => hSI.1 b l hb (Or.inl h)
  refine mm_start pl_Sc (Nat.le_of_ble_eq_true rfl) ?_
  cases hx1 : ix_ 6 k with
  | none =>
    rw [show an_taken A l k = (-2) by unfold an_taken; rw [hx1]]
    refine mm_B ok_Sc_taken 0 1 (1, [some (.ref 0), some (.int l), some (.int k)], [.int k], (hp_SH ++ dy, g, r)) [] rfl trivial ?_
    refine mm_cS (as := [.int k]) (st := []) cw_Sc_isKind lk_Sc_68 sx_Sc_isKind (mm_at ok_Sc_taken (i := 1) rfl).1 (ct_Sc_isKind (hp_SH ++ dy, g, r) k) (by decide) ⟨by omega, by omega⟩ (Nat.le_of_ble_eq_true rfl) (mm_vs_b (b := 77) rfl (hp_len dy)) (fun v h' hqq => ?_)
    obtain ⟨rfl, hqe⟩ := hqq; rw [hqe]
    rw [kx_ k, hx1]
    refine mm_I ok_Sc_taken 2 0 4 [some (.ref 0), some (.int l), some (.int k)] [.int (iz_ none)] (hp_SH ++ dy, g, r) [] rfl trivial rfl rfl (fun q => False.elim (q rfl)) (fun _ => ?_)
    refine mm_B ok_Sc_taken 3 1 (9, [some (.ref 0), some (.int l), some (.int k)], [.int (-2)], (hp_SH ++ dy, g, r)) [] rfl trivial ?_
    exact mm_ri rfl (mm_at ok_Sc_taken (i := 4) rfl).1 ⟨Nat.le_refl _, Nat.le_refl _⟩ (RC_q rfl hI fr_.rf)
  | some j =>
    obtain ⟨hl1, rfl⟩ := ix_some (by omega) hx1
    cases hx2 : ix_ A.1.1 l with
    | none =>
      rw [show an_taken A l (nI j) = (-11) by unfold an_taken; rw [hx1, hx2]]
      refine mm_B ok_Sc_taken 0 1 (1, [some (.ref 0), some (.int l), some (.int (nI j))], [.int (nI j)], (hp_SH ++ dy, g, r)) [] rfl trivial ?_
      refine mm_cS (as := [.int (nI j)]) (st := []) cw_Sc_isKind lk_Sc_68 sx_Sc_isKind (mm_at ok_Sc_taken (i := 1) rfl).1 (ct_Sc_isKind (hp_SH ++ dy, g, r) (nI j)) (by decide) ⟨by omega, by omega⟩ (Nat.le_of_ble_eq_true rfl) (mm_vs_b (b := 77) rfl (hp_len dy)) (fun v h' hqq => ?_)
      obtain ⟨rfl, hqe⟩ := hqq; rw [hqe]
      rw [kx_ (nI j), ix_at hl1 (by omega)]
      refine mm_I ok_Sc_taken 2 0 4 [some (.ref 0), some (.int l), some (.int (nI j))] [.int (iz_ (some j))] (hp_SH ++ dy, g, r) [] rfl trivial rfl rfl (fun _ => ?_) (fun q => False.elim (one0 q))
      refine mm_B ok_Sc_taken 5 2 (12, [some (.ref 0), some (.int l), some (.int (nI j))], [.int l, .ref 0], (hp_SH ++ dy, g, r)) [] rfl trivial ?_
      refine mm_cV (as := [.int l]) (st := []) (q := 0) cw_Sc_isLesson lk_Sc_102 in_Sc_isLesson sl_Sc_isLesson rfl rfl (mm_at ok_Sc_taken (i := 7) rfl).1 (ct_Sc_isLesson dy g r l) (by decide) ⟨by omega, by omega⟩ (Nat.le_of_ble_eq_true rfl) (mm_vs_b (b := 77) rfl (hp_len dy)) (fun v h' hqq => ?_)
      obtain ⟨rfl, hqe⟩ := hqq; rw [hqe]
      rw [lx_ e20 l, hx2]
      refine mm_I ok_Sc_taken 8 0 15 [some (.ref 0), some (.int l), some (.int (nI j))] [.int (iz_ none)] (hp_SH ++ dy, g, r) [] rfl trivial rfl rfl (fun q => False.elim (q rfl)) (fun _ => ?_)
      refine mm_B ok_Sc_taken 9 1 (20, [some (.ref 0), some (.int l), some (.int (nI j))], [.int (-11)], (hp_SH ++ dy, g, r)) [] rfl trivial ?_
      exact mm_ri rfl (mm_at ok_Sc_taken (i := 10) rfl).1 ⟨Nat.le_refl _, Nat.le_refl _⟩ (RC_q rfl hI fr_.rf)
    | some i =>
      obtain ⟨hl2, rfl⟩ := ix_some (by omega) hx2
      rw [show an_taken A (nI i) (nI j) = (if un_ (A.1.2.1 i) j = true then nI (A.1.2.2.1 i) else -13) from by unfold an_taken; rw [hx1, hx2]]
      obtain ⟨e3, e4, e5, k6, k9, k16⟩ := tl_f hL hl2
      refine mm_B ok_Sc_taken 0 1 (1, [some (.ref 0), some (.int (nI i)), some (.int (nI j))], [.int (nI j)], (hp_SH ++ dy, g, r)) [] rfl trivial ?_
      refine mm_cS (as := [.int (nI j)]) (st := []) cw_Sc_isKind lk_Sc_68 sx_Sc_isKind (mm_at ok_Sc_taken (i := 1) rfl).1 (ct_Sc_isKind (hp_SH ++ dy, g, r) (nI j)) (by decide) ⟨by omega, by omega⟩ (Nat.le_of_ble_eq_true rfl) (mm_vs_b (b := 77) rfl (hp_len dy)) (fun v h' hqq => ?_)
      obtain ⟨rfl, hqe⟩ := hqq; rw [hqe]
      rw [kx_ (nI j), ix_at hl1 (by omega)]
      refine mm_I ok_Sc_taken 2 0 4 [some (.ref 0), some (.int (nI i)), some (.int (nI j))] [.int (iz_ (some j))] (hp_SH ++ dy, g, r) [] rfl trivial rfl rfl (fun _ => ?_) (fun q => False.elim (one0 q))
      refine mm_B ok_Sc_taken 5 2 (12, [some (.ref 0), some (.int (nI i)), some (.int (nI j))], [.int (nI i), .ref 0], (hp_SH ++ dy, g, r)) [] rfl trivial ?_
      refine mm_cV (as := [.int (nI i)]) (st := []) (q := 0) cw_Sc_isLesson lk_Sc_102 in_Sc_isLesson sl_Sc_isLesson rfl rfl (mm_at ok_Sc_taken (i := 7) rfl).1 (ct_Sc_isLesson dy g r (nI i)) (by decide) ⟨by omega, by omega⟩ (Nat.le_of_ble_eq_true rfl) (mm_vs_b (b := 77) rfl (hp_len dy)) (fun v h' hqq => ?_)
      obtain ⟨rfl, hqe⟩ := hqq; rw [hqe]
      rw [lx_ e20 (nI i), ix_at hl2 (by omega)]
      refine mm_I ok_Sc_taken 8 0 15 [some (.ref 0), some (.int (nI i)), some (.int (nI j))] [.int (iz_ (some i))] (hp_SH ++ dy, g, r) [] rfl trivial rfl rfl (fun _ => ?_) (fun q => False.elim (one0 q))
      refine mm_B ok_Sc_taken 11 3 (26, [some (.ref 0), some (.int (nI i)), some (.int (nI j))], [.int (nI i), .ref 1], (hp_SH ++ dy, g, r)) [] rfl trivial ?_
      refine mm_cV (as := [.int (nI i)]) (st := []) (q := 1) cw_Sp_kindOf lk_Sc_117 in_Sp_kindOf sl_Sp_kindOf rfl rfl (mm_at ok_Sc_taken (i := 14) rfl).1 (ct_Sp_kindOf dy g (nr_ g) r rfl hL hl2) (by decide) ⟨by omega, by omega⟩ (Nat.le_of_ble_eq_true rfl) (mm_vs_b (b := 77) rfl (hp_len dy)) (fun v h' hqq => ?_)
      obtain ⟨rfl, hqe⟩ := hqq; rw [hqe]
      refine mm_B ok_Sc_taken 15 1 (30, [some (.ref 0), some (.int (nI i)), some (.int (nI j))], [.int (nI j), .ref (19 + A.1.2.1 i)], (hp_SH ++ dy, g, r)) [] rfl trivial ?_
      refine mm_cS (as := [.ref (19 + A.1.2.1 i), .int (nI j)]) (st := []) cw_Sc_isUnder lk_Sc_276 sx_Sc_isUnder (mm_at ok_Sc_taken (i := 16) rfl).1 (ct_Sc_isUnder dy g r k6 hl1) (by decide) ⟨by omega, by omega⟩ (Nat.le_of_ble_eq_true rfl) (mm_vs_b (b := 77) rfl (hp_len dy)) (fun v h' hqq => ?_)
      obtain ⟨rfl, hqe⟩ := hqq; rw [hqe]
      cases hu : un_ (A.1.2.1 i) j with
      | true =>
        refine mm_I ok_Sc_taken 17 0 33 [some (.ref 0), some (.int (nI i)), some (.int (nI j))] [.int (if true = true then 1 else 0)] (hp_SH ++ dy, g, r) [] rfl trivial rfl rfl (fun q => False.elim (absurd q (by decide))) (fun _ => ?_)
        refine mm_B ok_Sc_taken 18 7 (53, [some (.ref 0), some (.int (nI i)), some (.int (nI j))], [.int (g 4 ((nI i).toNatClampNeg))], (hp_SH ++ dy, g, r)) [vp_in (nI i) 4] rfl (show vp_in (nI i) 4 from (nI_vi (by omega) (by decide))) ?_
        rw [e4]
        exact mm_ri rfl (mm_at ok_Sc_taken (i := 26) rfl).1 ⟨Nat.le_refl _, Nat.le_refl _⟩ (RC_q rfl hI fr_.rf)
      | false =>
        refine mm_I ok_Sc_taken 17 0 33 [some (.ref 0), some (.int (nI i)), some (.int (nI j))] [.int (if false = true then 1 else 0)] (hp_SH ++ dy, g, r) [] rfl trivial rfl rfl (fun _ => ?_) (fun q => False.elim (q rfl))
        refine mm_B ok_Sc_taken 25 1 (53, [some (.ref 0), some (.int (nI i)), some (.int (nI j))], [.int (-13)], (hp_SH ++ dy, g, r)) [] rfl trivial ?_
        exact mm_ri rfl (mm_at ok_Sc_taken (i := 26) rfl).1 ⟨Nat.le_refl _, Nat.le_refl _⟩ (RC_q rfl hI fr_.rf)
theorem cc_told (dy : List mm_Sh) (g : Nat → Nat → Int32) (r : (Nat → Nat → Int64) × Nat × (Nat → Int32)) {A : sA} (hI : CI dy (nr_ g) A) (hSI : SI A) (o w : Int32) : mm_Ct 12 M_Sc_told [.ref 0, .int o, .int w] (hp_SH ++ dy, g, r) 0 0 (RC dy g r A (.int (an_told A o w))) := by
  have hI' := hI
  obtain ⟨hL, hK, hPl, hX, hB, hS, hIm, hFd, hW⟩ := hI'
  have h4 := hL.2.1
  have h6 := hK.2.1
  have e20 : g 2 0 = nI A.1.1 := by rw [← nr_eq g (k := 2) (j := 0) rfl]; exact hL.1
  have e21 : g 2 1 = nI A.2.1.1 := by rw [← nr_eq g (k := 2) (j := 1) rfl]; exact hK.1
  refine mm_start pl_Sc (Nat.le_of_ble_eq_true rfl) ?_
  cases hx : ix_ 8 w with
  | none =>
    rw [show an_told A o w = -2 by unfold an_told; rw [hx]]
    rcases g1_n (by decide) hx with hr | hr
    · refine mm_I ok_Sc_told 0 1 1 [some (.ref 0), some (.int o), some (.int w), none] [.int w] (hp_SH ++ dy, g, r) [] rfl trivial rfl rfl (fun _ => ?_) (fun q => False.elim (q hr))
      refine mm_B ok_Sc_told 17 1 (36, [some (.ref 0), some (.int o), some (.int w), none], [.int (-2)], (hp_SH ++ dy, g, r)) [] rfl trivial ?_
      exact mm_ri rfl (mm_at ok_Sc_told (i := 18) rfl).1 ⟨Nat.le_refl _, Nat.le_refl _⟩ (RC_q rfl hI fr_.rf)
    · refine mm_I ok_Sc_told 0 1 1 [some (.ref 0), some (.int o), some (.int w), none] [.int w] (hp_SH ++ dy, g, r) [] rfl trivial rfl rfl (fun q => False.elim (absurd (Int32.lt_trans hr q) (by decide))) (fun _ => ?_)
      refine mm_I ok_Sc_told 2 2 7 [some (.ref 0), some (.int o), some (.int w), none] [.int 7, .int w] (hp_SH ++ dy, g, r) [] rfl trivial rfl rfl (fun _ => ?_) (fun q => False.elim (q hr))
      refine mm_B ok_Sc_told 17 1 (36, [some (.ref 0), some (.int o), some (.int w), none], [.int (-2)], (hp_SH ++ dy, g, r)) [] rfl trivial ?_
      exact mm_ri rfl (mm_at ok_Sc_told (i := 18) rfl).1 ⟨Nat.le_refl _, Nat.le_refl _⟩ (RC_q rfl hI fr_.rf)
  | some j =>
    obtain ⟨hj, rfl⟩ := ix_some (by decide) hx
    rcases (show j = 0 ∨ j = 1 ∨ j = 2 ∨ j = 3 ∨ j = 4 ∨ j = 5 ∨ j = 6 ∨ j = 7 by omega) with rfl | rfl | rfl | rfl | rfl | rfl | rfl | rfl
    · cases hy : ix_ A.1.1 o with
      | none =>
        rw [show an_told A o (nI 0) = -2 by unfold an_told; rw [hx]; show (match ix_ A.1.1 o with | none => _ | some l => _) = _; rw [hy]]
        refine mm_I ok_Sc_told 0 1 1 [some (.ref 0), some (.int o), some (.int (nI 0)), none] [.int (nI 0)] (hp_SH ++ dy, g, r) [] rfl trivial rfl rfl (fun q => False.elim (absurd q (by decide))) (fun _ => ?_)
        refine mm_I ok_Sc_told 2 2 7 [some (.ref 0), some (.int o), some (.int (nI 0)), none] [.int 7, .int (nI 0)] (hp_SH ++ dy, g, r) [] rfl trivial rfl rfl (fun q => False.elim (absurd q (by decide))) (fun _ => ?_)
        refine mm_I ok_Sc_told 5 2 12 [some (.ref 0), some (.int o), some (.int (nI 0)), none] [.int 5, .int (nI 0)] (hp_SH ++ dy, g, r) [] rfl trivial rfl rfl (fun q => False.elim (absurd q (by decide))) (fun _ => ?_)
        refine mm_B ok_Sc_told 8 2 (17, [some (.ref 0), some (.int o), some (.int (nI 0)), none], [.int o, .ref 0], (hp_SH ++ dy, g, r)) [] rfl trivial ?_
        refine mm_cV (as := [.int o]) (st := []) (q := 0) cw_Sc_isLesson lk_Sc_102 in_Sc_isLesson sl_Sc_isLesson rfl rfl (mm_at ok_Sc_told (i := 10) rfl).1 (ct_Sc_isLesson dy g r o) (by decide) ⟨by omega, by omega⟩ (Nat.le_of_ble_eq_true rfl) (mm_vs_b (b := 77) rfl (hp_len dy)) (fun v h' hqq => ?_)
        obtain ⟨rfl, hqe⟩ := hqq; rw [hqe]
        rw [lx_ e20 o, hy]
        refine mm_I ok_Sc_told 11 0 20 [some (.ref 0), some (.int o), some (.int (nI 0)), none] [.int (iz_ none)] (hp_SH ++ dy, g, r) [] rfl trivial rfl rfl (fun _ => ?_) (fun q => False.elim (q rfl))
        refine mm_B ok_Sc_told 17 1 (36, [some (.ref 0), some (.int o), some (.int (nI 0)), none], [.int (-2)], (hp_SH ++ dy, g, r)) [] rfl trivial ?_
        exact mm_ri rfl (mm_at ok_Sc_told (i := 18) rfl).1 ⟨Nat.le_refl _, Nat.le_refl _⟩ (RC_q rfl hI fr_.rf)
      | some l =>
        obtain ⟨hl, rfl⟩ := ix_some (by omega) hy
        obtain ⟨e3, e4, e5, k6, k9, k16⟩ := tl_f hL hl
        rw [show an_told A (nI l) (nI 0) = nI (A.1.2.1 l) by unfold an_told; rw [hx]; show (match ix_ A.1.1 (nI l) with | none => _ | some l => _) = _; rw [hy]; rfl]
        refine mm_I ok_Sc_told 0 1 1 [some (.ref 0), some (.int (nI l)), some (.int (nI 0)), none] [.int (nI 0)] (hp_SH ++ dy, g, r) [] rfl trivial rfl rfl (fun q => False.elim (absurd q (by decide))) (fun _ => ?_)
        refine mm_I ok_Sc_told 2 2 7 [some (.ref 0), some (.int (nI l)), some (.int (nI 0)), none] [.int 7, .int (nI 0)] (hp_SH ++ dy, g, r) [] rfl trivial rfl rfl (fun q => False.elim (absurd q (by decide))) (fun _ => ?_)
        refine mm_I ok_Sc_told 5 2 12 [some (.ref 0), some (.int (nI l)), some (.int (nI 0)), none] [.int 5, .int (nI 0)] (hp_SH ++ dy, g, r) [] rfl trivial rfl rfl (fun q => False.elim (absurd q (by decide))) (fun _ => ?_)
        refine mm_B ok_Sc_told 8 2 (17, [some (.ref 0), some (.int (nI l)), some (.int (nI 0)), none], [.int (nI l), .ref 0], (hp_SH ++ dy, g, r)) [] rfl trivial ?_
        refine mm_cV (as := [.int (nI l)]) (st := []) (q := 0) cw_Sc_isLesson lk_Sc_102 in_Sc_isLesson sl_Sc_isLesson rfl rfl (mm_at ok_Sc_told (i := 10) rfl).1 (ct_Sc_isLesson dy g r (nI l)) (by decide) ⟨by omega, by omega⟩ (Nat.le_of_ble_eq_true rfl) (mm_vs_b (b := 77) rfl (hp_len dy)) (fun v h' hqq => ?_)
        obtain ⟨rfl, hqe⟩ := hqq; rw [hqe]
        rw [lx_ e20 (nI l), hy]
        refine mm_I ok_Sc_told 11 0 20 [some (.ref 0), some (.int (nI l)), some (.int (nI 0)), none] [.int (iz_ (some l))] (hp_SH ++ dy, g, r) [] rfl trivial rfl rfl (fun q => False.elim (one0 q)) (fun _ => ?_)
        refine mm_B ok_Sc_told 12 1 (37, [some (.ref 0), some (.int (nI l)), some (.int (nI 0)), none], [], (hp_SH ++ dy, g, r)) [] rfl trivial ?_
        refine mm_B ok_Sc_told 19 5 (46, [some (.ref 0), some (.int (nI l)), some (.int (nI 0)), some (.ref 2)], [.int (nI 0)], (hp_SH ++ dy, g, r)) [] rfl trivial ?_
        refine mm_sw (tgt := 88) (mm_at ok_Sc_told (i := 24) rfl).1 (by exact Or.inr ⟨by decide, _, rfl, by decide⟩) ?_
        refine mm_B ok_Sc_told 25 4 (94, [some (.ref 0), some (.int (nI l)), some (.int (nI 0)), some (.ref 2)], [.int (g 3 ((nI l).toNatClampNeg))], (hp_SH ++ dy, g, r)) [vp_in (nI l) 4] rfl (show vp_in (nI l) 4 from (nI_vi (by omega) (by decide))) ?_
        rw [e3]
        exact mm_ri rfl (mm_at ok_Sc_told (i := 29) rfl).1 ⟨Nat.le_refl _, Nat.le_refl _⟩ (RC_q rfl hI fr_.rf)
    · cases hy : ix_ A.1.1 o with
      | none =>
        rw [show an_told A o (nI 1) = -2 by unfold an_told; rw [hx]; show (match ix_ A.1.1 o with | none => _ | some l => _) = _; rw [hy]]
        refine mm_I ok_Sc_told 0 1 1 [some (.ref 0), some (.int o), some (.int (nI 1)), none] [.int (nI 1)] (hp_SH ++ dy, g, r) [] rfl trivial rfl rfl (fun q => False.elim (absurd q (by decide))) (fun _ => ?_)
        refine mm_I ok_Sc_told 2 2 7 [some (.ref 0), some (.int o), some (.int (nI 1)), none] [.int 7, .int (nI 1)] (hp_SH ++ dy, g, r) [] rfl trivial rfl rfl (fun q => False.elim (absurd q (by decide))) (fun _ => ?_)
        refine mm_I ok_Sc_told 5 2 12 [some (.ref 0), some (.int o), some (.int (nI 1)), none] [.int 5, .int (nI 1)] (hp_SH ++ dy, g, r) [] rfl trivial rfl rfl (fun q => False.elim (absurd q (by decide))) (fun _ => ?_)
        refine mm_B ok_Sc_told 8 2 (17, [some (.ref 0), some (.int o), some (.int (nI 1)), none], [.int o, .ref 0], (hp_SH ++ dy, g, r)) [] rfl trivial ?_
        refine mm_cV (as := [.int o]) (st := []) (q := 0) cw_Sc_isLesson lk_Sc_102 in_Sc_isLesson sl_Sc_isLesson rfl rfl (mm_at ok_Sc_told (i := 10) rfl).1 (ct_Sc_isLesson dy g r o) (by decide) ⟨by omega, by omega⟩ (Nat.le_of_ble_eq_true rfl) (mm_vs_b (b := 77) rfl (hp_len dy)) (fun v h' hqq => ?_)
        obtain ⟨rfl, hqe⟩ := hqq; rw [hqe]
        rw [lx_ e20 o, hy]
        refine mm_I ok_Sc_told 11 0 20 [some (.ref 0), some (.int o), some (.int (nI 1)), none] [.int (iz_ none)] (hp_SH ++ dy, g, r) [] rfl trivial rfl rfl (fun _ => ?_) (fun q => False.elim (q rfl))
        refine mm_B ok_Sc_told 17 1 (36, [some (.ref 0), some (.int o), some (.int (nI 1)), none], [.int (-2)], (hp_SH ++ dy, g, r)) [] rfl trivial ?_
        exact mm_ri rfl (mm_at ok_Sc_told (i := 18) rfl).1 ⟨Nat.le_refl _, Nat.le_refl _⟩ (RC_q rfl hI fr_.rf)
      | some l =>
        obtain ⟨hl, rfl⟩ := ix_some (by omega) hy
        obtain ⟨e3, e4, e5, k6, k9, k16⟩ := tl_f hL hl
        rw [show an_told A (nI l) (nI 1) = nI (A.1.2.2.1 l) by unfold an_told; rw [hx]; show (match ix_ A.1.1 (nI l) with | none => _ | some l => _) = _; rw [hy]; rfl]
        refine mm_I ok_Sc_told 0 1 1 [some (.ref 0), some (.int (nI l)), some (.int (nI 1)), none] [.int (nI 1)] (hp_SH ++ dy, g, r) [] rfl trivial rfl rfl (fun q => False.elim (absurd q (by decide))) (fun _ => ?_)
        refine mm_I ok_Sc_told 2 2 7 [some (.ref 0), some (.int (nI l)), some (.int (nI 1)), none] [.int 7, .int (nI 1)] (hp_SH ++ dy, g, r) [] rfl trivial rfl rfl (fun q => False.elim (absurd q (by decide))) (fun _ => ?_)
        refine mm_I ok_Sc_told 5 2 12 [some (.ref 0), some (.int (nI l)), some (.int (nI 1)), none] [.int 5, .int (nI 1)] (hp_SH ++ dy, g, r) [] rfl trivial rfl rfl (fun q => False.elim (absurd q (by decide))) (fun _ => ?_)
        refine mm_B ok_Sc_told 8 2 (17, [some (.ref 0), some (.int (nI l)), some (.int (nI 1)), none], [.int (nI l), .ref 0], (hp_SH ++ dy, g, r)) [] rfl trivial ?_
        refine mm_cV (as := [.int (nI l)]) (st := []) (q := 0) cw_Sc_isLesson lk_Sc_102 in_Sc_isLesson sl_Sc_isLesson rfl rfl (mm_at ok_Sc_told (i := 10) rfl).1 (ct_Sc_isLesson dy g r (nI l)) (by decide) ⟨by omega, by omega⟩ (Nat.le_of_ble_eq_true rfl) (mm_vs_b (b := 77) rfl (hp_len dy)) (fun v h' hqq => ?_)
        obtain ⟨rfl, hqe⟩ := hqq; rw [hqe]
        rw [lx_ e20 (nI l), hy]
        refine mm_I ok_Sc_told 11 0 20 [some (.ref 0), some (.int (nI l)), some (.int (nI 1)), none] [.int (iz_ (some l))] (hp_SH ++ dy, g, r) [] rfl trivial rfl rfl (fun q => False.elim (one0 q)) (fun _ => ?_)
        refine mm_B ok_Sc_told 12 1 (37, [some (.ref 0), some (.int (nI l)), some (.int (nI 1)), none], [], (hp_SH ++ dy, g, r)) [] rfl trivial ?_
        refine mm_B ok_Sc_told 19 5 (46, [some (.ref 0), some (.int (nI l)), some (.int (nI 1)), some (.ref 2)], [.int (nI 1)], (hp_SH ++ dy, g, r)) [] rfl trivial ?_
        refine mm_sw (tgt := 95) (mm_at ok_Sc_told (i := 24) rfl).1 (by exact Or.inr ⟨by decide, _, rfl, by decide⟩) ?_
        refine mm_B ok_Sc_told 30 4 (101, [some (.ref 0), some (.int (nI l)), some (.int (nI 1)), some (.ref 2)], [.int (g 4 ((nI l).toNatClampNeg))], (hp_SH ++ dy, g, r)) [vp_in (nI l) 4] rfl (show vp_in (nI l) 4 from (nI_vi (by omega) (by decide))) ?_
        rw [e4]
        exact mm_ri rfl (mm_at ok_Sc_told (i := 34) rfl).1 ⟨Nat.le_refl _, Nat.le_refl _⟩ (RC_q rfl hI fr_.rf)
    · cases hy : ix_ A.1.1 o with
      | none =>
        rw [show an_told A o (nI 2) = -2 by unfold an_told; rw [hx]; show (match ix_ A.1.1 o with | none => _ | some l => _) = _; rw [hy]]
        refine mm_I ok_Sc_told 0 1 1 [some (.ref 0), some (.int o), some (.int (nI 2)), none] [.int (nI 2)] (hp_SH ++ dy, g, r) [] rfl trivial rfl rfl (fun q => False.elim (absurd q (by decide))) (fun _ => ?_)
        refine mm_I ok_Sc_told 2 2 7 [some (.ref 0), some (.int o), some (.int (nI 2)), none] [.int 7, .int (nI 2)] (hp_SH ++ dy, g, r) [] rfl trivial rfl rfl (fun q => False.elim (absurd q (by decide))) (fun _ => ?_)
        refine mm_I ok_Sc_told 5 2 12 [some (.ref 0), some (.int o), some (.int (nI 2)), none] [.int 5, .int (nI 2)] (hp_SH ++ dy, g, r) [] rfl trivial rfl rfl (fun q => False.elim (absurd q (by decide))) (fun _ => ?_)
        refine mm_B ok_Sc_told 8 2 (17, [some (.ref 0), some (.int o), some (.int (nI 2)), none], [.int o, .ref 0], (hp_SH ++ dy, g, r)) [] rfl trivial ?_
        refine mm_cV (as := [.int o]) (st := []) (q := 0) cw_Sc_isLesson lk_Sc_102 in_Sc_isLesson sl_Sc_isLesson rfl rfl (mm_at ok_Sc_told (i := 10) rfl).1 (ct_Sc_isLesson dy g r o) (by decide) ⟨by omega, by omega⟩ (Nat.le_of_ble_eq_true rfl) (mm_vs_b (b := 77) rfl (hp_len dy)) (fun v h' hqq => ?_)
        obtain ⟨rfl, hqe⟩ := hqq; rw [hqe]
        rw [lx_ e20 o, hy]
        refine mm_I ok_Sc_told 11 0 20 [some (.ref 0), some (.int o), some (.int (nI 2)), none] [.int (iz_ none)] (hp_SH ++ dy, g, r) [] rfl trivial rfl rfl (fun _ => ?_) (fun q => False.elim (q rfl))
        refine mm_B ok_Sc_told 17 1 (36, [some (.ref 0), some (.int o), some (.int (nI 2)), none], [.int (-2)], (hp_SH ++ dy, g, r)) [] rfl trivial ?_
        exact mm_ri rfl (mm_at ok_Sc_told (i := 18) rfl).1 ⟨Nat.le_refl _, Nat.le_refl _⟩ (RC_q rfl hI fr_.rf)
      | some l =>
        obtain ⟨hl, rfl⟩ := ix_some (by omega) hy
        obtain ⟨e3, e4, e5, k6, k9, k16⟩ := tl_f hL hl
        rw [show an_told A (nI l) (nI 2) = nI (A.1.2.2.2 l) by unfold an_told; rw [hx]; show (match ix_ A.1.1 (nI l) with | none => _ | some l => _) = _; rw [hy]; rfl]
        refine mm_I ok_Sc_told 0 1 1 [some (.ref 0), some (.int (nI l)), some (.int (nI 2)), none] [.int (nI 2)] (hp_SH ++ dy, g, r) [] rfl trivial rfl rfl (fun q => False.elim (absurd q (by decide))) (fun _ => ?_)
        refine mm_I ok_Sc_told 2 2 7 [some (.ref 0), some (.int (nI l)), some (.int (nI 2)), none] [.int 7, .int (nI 2)] (hp_SH ++ dy, g, r) [] rfl trivial rfl rfl (fun q => False.elim (absurd q (by decide))) (fun _ => ?_)
        refine mm_I ok_Sc_told 5 2 12 [some (.ref 0), some (.int (nI l)), some (.int (nI 2)), none] [.int 5, .int (nI 2)] (hp_SH ++ dy, g, r) [] rfl trivial rfl rfl (fun q => False.elim (absurd q (by decide))) (fun _ => ?_)
        refine mm_B ok_Sc_told 8 2 (17, [some (.ref 0), some (.int (nI l)), some (.int (nI 2)), none], [.int (nI l), .ref 0], (hp_SH ++ dy, g, r)) [] rfl trivial ?_
        refine mm_cV (as := [.int (nI l)]) (st := []) (q := 0) cw_Sc_isLesson lk_Sc_102 in_Sc_isLesson sl_Sc_isLesson rfl rfl (mm_at ok_Sc_told (i := 10) rfl).1 (ct_Sc_isLesson dy g r (nI l)) (by decide) ⟨by omega, by omega⟩ (Nat.le_of_ble_eq_true rfl) (mm_vs_b (b := 77) rfl (hp_len dy)) (fun v h' hqq => ?_)
        obtain ⟨rfl, hqe⟩ := hqq; rw [hqe]
        rw [lx_ e20 (nI l), hy]
        refine mm_I ok_Sc_told 11 0 20 [some (.ref 0), some (.int (nI l)), some (.int (nI 2)), none] [.int (iz_ (some l))] (hp_SH ++ dy, g, r) [] rfl trivial rfl rfl (fun q => False.elim (one0 q)) (fun _ => ?_)
        refine mm_B ok_Sc_told 12 1 (37, [some (.ref 0), some (.int (nI l)), some (.int (nI 2)), none], [], (hp_SH ++ dy, g, r)) [] rfl trivial ?_
        refine mm_B ok_Sc_told 19 5 (46, [some (.ref 0), some (.int (nI l)), some (.int (nI 2)), some (.ref 2)], [.int (nI 2)], (hp_SH ++ dy, g, r)) [] rfl trivial ?_
        refine mm_sw (tgt := 102) (mm_at ok_Sc_told (i := 24) rfl).1 (by exact Or.inr ⟨by decide, _, rfl, by decide⟩) ?_
        refine mm_B ok_Sc_told 35 4 (108, [some (.ref 0), some (.int (nI l)), some (.int (nI 2)), some (.ref 2)], [.int (g 5 ((nI l).toNatClampNeg))], (hp_SH ++ dy, g, r)) [vp_in (nI l) 4] rfl (show vp_in (nI l) 4 from (nI_vi (by omega) (by decide))) ?_
        rw [e5]
        exact mm_ri rfl (mm_at ok_Sc_told (i := 39) rfl).1 ⟨Nat.le_refl _, Nat.le_refl _⟩ (RC_q rfl hI fr_.rf)
    · cases hy : ix_ A.1.1 o with
      | none =>
        rw [show an_told A o (nI 3) = -2 by unfold an_told; rw [hx]; show (match ix_ A.1.1 o with | none => _ | some l => _) = _; rw [hy]]
        refine mm_I ok_Sc_told 0 1 1 [some (.ref 0), some (.int o), some (.int (nI 3)), none] [.int (nI 3)] (hp_SH ++ dy, g, r) [] rfl trivial rfl rfl (fun q => False.elim (absurd q (by decide))) (fun _ => ?_)
        refine mm_I ok_Sc_told 2 2 7 [some (.ref 0), some (.int o), some (.int (nI 3)), none] [.int 7, .int (nI 3)] (hp_SH ++ dy, g, r) [] rfl trivial rfl rfl (fun q => False.elim (absurd q (by decide))) (fun _ => ?_)
        refine mm_I ok_Sc_told 5 2 12 [some (.ref 0), some (.int o), some (.int (nI 3)), none] [.int 5, .int (nI 3)] (hp_SH ++ dy, g, r) [] rfl trivial rfl rfl (fun q => False.elim (absurd q (by decide))) (fun _ => ?_)
        refine mm_B ok_Sc_told 8 2 (17, [some (.ref 0), some (.int o), some (.int (nI 3)), none], [.int o, .ref 0], (hp_SH ++ dy, g, r)) [] rfl trivial ?_
        refine mm_cV (as := [.int o]) (st := []) (q := 0) cw_Sc_isLesson lk_Sc_102 in_Sc_isLesson sl_Sc_isLesson rfl rfl (mm_at ok_Sc_told (i := 10) rfl).1 (ct_Sc_isLesson dy g r o) (by decide) ⟨by omega, by omega⟩ (Nat.le_of_ble_eq_true rfl) (mm_vs_b (b := 77) rfl (hp_len dy)) (fun v h' hqq => ?_)
        obtain ⟨rfl, hqe⟩ := hqq; rw [hqe]
        rw [lx_ e20 o, hy]
        refine mm_I ok_Sc_told 11 0 20 [some (.ref 0), some (.int o), some (.int (nI 3)), none] [.int (iz_ none)] (hp_SH ++ dy, g, r) [] rfl trivial rfl rfl (fun _ => ?_) (fun q => False.elim (q rfl))
        refine mm_B ok_Sc_told 17 1 (36, [some (.ref 0), some (.int o), some (.int (nI 3)), none], [.int (-2)], (hp_SH ++ dy, g, r)) [] rfl trivial ?_
        exact mm_ri rfl (mm_at ok_Sc_told (i := 18) rfl).1 ⟨Nat.le_refl _, Nat.le_refl _⟩ (RC_q rfl hI fr_.rf)
      | some l =>
        obtain ⟨hl, rfl⟩ := ix_some (by omega) hy
        obtain ⟨e3, e4, e5, k6, k9, k16⟩ := tl_f hL hl
        rw [show an_told A (nI l) (nI 3) = nI (sp_tm (A.1.2.1 l) (A.1.2.2.1 l)) by unfold an_told; rw [hx]; show (match ix_ A.1.1 (nI l) with | none => _ | some l => _) = _; rw [hy]; rfl]
        refine mm_I ok_Sc_told 0 1 1 [some (.ref 0), some (.int (nI l)), some (.int (nI 3)), none] [.int (nI 3)] (hp_SH ++ dy, g, r) [] rfl trivial rfl rfl (fun q => False.elim (absurd q (by decide))) (fun _ => ?_)
        refine mm_I ok_Sc_told 2 2 7 [some (.ref 0), some (.int (nI l)), some (.int (nI 3)), none] [.int 7, .int (nI 3)] (hp_SH ++ dy, g, r) [] rfl trivial rfl rfl (fun q => False.elim (absurd q (by decide))) (fun _ => ?_)
        refine mm_I ok_Sc_told 5 2 12 [some (.ref 0), some (.int (nI l)), some (.int (nI 3)), none] [.int 5, .int (nI 3)] (hp_SH ++ dy, g, r) [] rfl trivial rfl rfl (fun q => False.elim (absurd q (by decide))) (fun _ => ?_)
        refine mm_B ok_Sc_told 8 2 (17, [some (.ref 0), some (.int (nI l)), some (.int (nI 3)), none], [.int (nI l), .ref 0], (hp_SH ++ dy, g, r)) [] rfl trivial ?_
        refine mm_cV (as := [.int (nI l)]) (st := []) (q := 0) cw_Sc_isLesson lk_Sc_102 in_Sc_isLesson sl_Sc_isLesson rfl rfl (mm_at ok_Sc_told (i := 10) rfl).1 (ct_Sc_isLesson dy g r (nI l)) (by decide) ⟨by omega, by omega⟩ (Nat.le_of_ble_eq_true rfl) (mm_vs_b (b := 77) rfl (hp_len dy)) (fun v h' hqq => ?_)
        obtain ⟨rfl, hqe⟩ := hqq; rw [hqe]
        rw [lx_ e20 (nI l), hy]
        refine mm_I ok_Sc_told 11 0 20 [some (.ref 0), some (.int (nI l)), some (.int (nI 3)), none] [.int (iz_ (some l))] (hp_SH ++ dy, g, r) [] rfl trivial rfl rfl (fun q => False.elim (one0 q)) (fun _ => ?_)
        refine mm_B ok_Sc_told 12 1 (37, [some (.ref 0), some (.int (nI l)), some (.int (nI 3)), none], [], (hp_SH ++ dy, g, r)) [] rfl trivial ?_
        refine mm_B ok_Sc_told 19 5 (46, [some (.ref 0), some (.int (nI l)), some (.int (nI 3)), some (.ref 2)], [.int (nI 3)], (hp_SH ++ dy, g, r)) [] rfl trivial ?_
        refine mm_sw (tgt := 109) (mm_at ok_Sc_told (i := 24) rfl).1 (by exact Or.inr ⟨by decide, _, rfl, by decide⟩) ?_
        refine mm_B ok_Sc_told 40 3 (114, [some (.ref 0), some (.int (nI l)), some (.int (nI 3)), some (.ref 2)], [.int (nI l), .ref 1], (hp_SH ++ dy, g, r)) [] rfl trivial ?_
        refine mm_cV (as := [.int (nI l)]) (st := []) (q := 1) cw_Sp_kindOf lk_Sc_117 in_Sp_kindOf sl_Sp_kindOf rfl rfl (mm_at ok_Sc_told (i := 43) rfl).1 (ct_Sp_kindOf dy g (nr_ g) r rfl hL hl) (by decide) ⟨by omega, by omega⟩ (Nat.le_of_ble_eq_true rfl) (mm_vs_b (b := 77) rfl (hp_len dy)) (fun v h' hqq => ?_)
        obtain ⟨rfl, hqe⟩ := hqq; rw [hqe]
        refine mm_B ok_Sc_told 44 4 (123, [some (.ref 0), some (.int (nI l)), some (.int (nI 3)), some (.ref 2)], [.int (g 4 ((nI l).toNatClampNeg)), .ref (19 + A.1.2.1 l)], (hp_SH ++ dy, g, r)) [vp_in (nI l) 4] rfl (show vp_in (nI l) 4 from (nI_vi (by omega) (by decide))) ?_
        rw [e4]
        refine vc_times (k := A.1.2.1 l) k6 lk_Sc_121 (mm_at ok_Sc_told (i := 48) rfl).1 (by decide) ⟨Nat.le_refl _, Nat.le_refl _⟩ (Nat.le_of_ble_eq_true rfl) (mm_vs_b (b := 77) rfl (hp_len dy)) ?_
        rw [vn_times _ k6 _ k9]
        exact mm_ri rfl (mm_at ok_Sc_told (i := 49) rfl).1 ⟨Nat.le_refl _, Nat.le_refl _⟩ (RC_q rfl hI fr_.rf)
    · cases hy : ix_ A.1.1 o with
      | none =>
        rw [show an_told A o (nI 4) = -2 by unfold an_told; rw [hx]; show (match ix_ A.1.1 o with | none => _ | some l => _) = _; rw [hy]]
        refine mm_I ok_Sc_told 0 1 1 [some (.ref 0), some (.int o), some (.int (nI 4)), none] [.int (nI 4)] (hp_SH ++ dy, g, r) [] rfl trivial rfl rfl (fun q => False.elim (absurd q (by decide))) (fun _ => ?_)
        refine mm_I ok_Sc_told 2 2 7 [some (.ref 0), some (.int o), some (.int (nI 4)), none] [.int 7, .int (nI 4)] (hp_SH ++ dy, g, r) [] rfl trivial rfl rfl (fun q => False.elim (absurd q (by decide))) (fun _ => ?_)
        refine mm_I ok_Sc_told 5 2 12 [some (.ref 0), some (.int o), some (.int (nI 4)), none] [.int 5, .int (nI 4)] (hp_SH ++ dy, g, r) [] rfl trivial rfl rfl (fun q => False.elim (absurd q (by decide))) (fun _ => ?_)
        refine mm_B ok_Sc_told 8 2 (17, [some (.ref 0), some (.int o), some (.int (nI 4)), none], [.int o, .ref 0], (hp_SH ++ dy, g, r)) [] rfl trivial ?_
        refine mm_cV (as := [.int o]) (st := []) (q := 0) cw_Sc_isLesson lk_Sc_102 in_Sc_isLesson sl_Sc_isLesson rfl rfl (mm_at ok_Sc_told (i := 10) rfl).1 (ct_Sc_isLesson dy g r o) (by decide) ⟨by omega, by omega⟩ (Nat.le_of_ble_eq_true rfl) (mm_vs_b (b := 77) rfl (hp_len dy)) (fun v h' hqq => ?_)
        obtain ⟨rfl, hqe⟩ := hqq; rw [hqe]
        rw [lx_ e20 o, hy]
        refine mm_I ok_Sc_told 11 0 20 [some (.ref 0), some (.int o), some (.int (nI 4)), none] [.int (iz_ none)] (hp_SH ++ dy, g, r) [] rfl trivial rfl rfl (fun _ => ?_) (fun q => False.elim (q rfl))
        refine mm_B ok_Sc_told 17 1 (36, [some (.ref 0), some (.int o), some (.int (nI 4)), none], [.int (-2)], (hp_SH ++ dy, g, r)) [] rfl trivial ?_
        exact mm_ri rfl (mm_at ok_Sc_told (i := 18) rfl).1 ⟨Nat.le_refl _, Nat.le_refl _⟩ (RC_q rfl hI fr_.rf)
      | some l =>
        obtain ⟨hl, rfl⟩ := ix_some (by omega) hy
        obtain ⟨e3, e4, e5, k6, k9, k16⟩ := tl_f hL hl
        rw [show an_told A (nI l) (nI 4) = nI (sp_vl (A.1.2.1 l) (A.1.2.2.1 l)) by unfold an_told; rw [hx]; show (match ix_ A.1.1 (nI l) with | none => _ | some l => _) = _; rw [hy]; rfl]
        refine mm_I ok_Sc_told 0 1 1 [some (.ref 0), some (.int (nI l)), some (.int (nI 4)), none] [.int (nI 4)] (hp_SH ++ dy, g, r) [] rfl trivial rfl rfl (fun q => False.elim (absurd q (by decide))) (fun _ => ?_)
        refine mm_I ok_Sc_told 2 2 7 [some (.ref 0), some (.int (nI l)), some (.int (nI 4)), none] [.int 7, .int (nI 4)] (hp_SH ++ dy, g, r) [] rfl trivial rfl rfl (fun q => False.elim (absurd q (by decide))) (fun _ => ?_)
        refine mm_I ok_Sc_told 5 2 12 [some (.ref 0), some (.int (nI l)), some (.int (nI 4)), none] [.int 5, .int (nI 4)] (hp_SH ++ dy, g, r) [] rfl trivial rfl rfl (fun q => False.elim (absurd q (by decide))) (fun _ => ?_)
        refine mm_B ok_Sc_told 8 2 (17, [some (.ref 0), some (.int (nI l)), some (.int (nI 4)), none], [.int (nI l), .ref 0], (hp_SH ++ dy, g, r)) [] rfl trivial ?_
        refine mm_cV (as := [.int (nI l)]) (st := []) (q := 0) cw_Sc_isLesson lk_Sc_102 in_Sc_isLesson sl_Sc_isLesson rfl rfl (mm_at ok_Sc_told (i := 10) rfl).1 (ct_Sc_isLesson dy g r (nI l)) (by decide) ⟨by omega, by omega⟩ (Nat.le_of_ble_eq_true rfl) (mm_vs_b (b := 77) rfl (hp_len dy)) (fun v h' hqq => ?_)
        obtain ⟨rfl, hqe⟩ := hqq; rw [hqe]
        rw [lx_ e20 (nI l), hy]
        refine mm_I ok_Sc_told 11 0 20 [some (.ref 0), some (.int (nI l)), some (.int (nI 4)), none] [.int (iz_ (some l))] (hp_SH ++ dy, g, r) [] rfl trivial rfl rfl (fun q => False.elim (one0 q)) (fun _ => ?_)
        refine mm_B ok_Sc_told 12 1 (37, [some (.ref 0), some (.int (nI l)), some (.int (nI 4)), none], [], (hp_SH ++ dy, g, r)) [] rfl trivial ?_
        refine mm_B ok_Sc_told 19 5 (46, [some (.ref 0), some (.int (nI l)), some (.int (nI 4)), some (.ref 2)], [.int (nI 4)], (hp_SH ++ dy, g, r)) [] rfl trivial ?_
        refine mm_sw (tgt := 127) (mm_at ok_Sc_told (i := 24) rfl).1 (by exact Or.inr ⟨by decide, _, rfl, by decide⟩) ?_
        refine mm_B ok_Sc_told 50 3 (132, [some (.ref 0), some (.int (nI l)), some (.int (nI 4)), some (.ref 2)], [.int (nI l), .ref 1], (hp_SH ++ dy, g, r)) [] rfl trivial ?_
        refine mm_cV (as := [.int (nI l)]) (st := []) (q := 1) cw_Sp_kindOf lk_Sc_117 in_Sp_kindOf sl_Sp_kindOf rfl rfl (mm_at ok_Sc_told (i := 53) rfl).1 (ct_Sp_kindOf dy g (nr_ g) r rfl hL hl) (by decide) ⟨by omega, by omega⟩ (Nat.le_of_ble_eq_true rfl) (mm_vs_b (b := 77) rfl (hp_len dy)) (fun v h' hqq => ?_)
        obtain ⟨rfl, hqe⟩ := hqq; rw [hqe]
        refine mm_B ok_Sc_told 54 4 (141, [some (.ref 0), some (.int (nI l)), some (.int (nI 4)), some (.ref 2)], [.int (g 4 ((nI l).toNatClampNeg)), .ref (19 + A.1.2.1 l)], (hp_SH ++ dy, g, r)) [vp_in (nI l) 4] rfl (show vp_in (nI l) 4 from (nI_vi (by omega) (by decide))) ?_
        rw [e4]
        refine vc_value (k := A.1.2.1 l) k6 lk_Sc_127 (mm_at ok_Sc_told (i := 58) rfl).1 (by decide) ⟨Nat.le_refl _, Nat.le_refl _⟩ (Nat.le_of_ble_eq_true rfl) (mm_vs_b (b := 77) rfl (hp_len dy)) ?_
        rw [vn_value _ k6 _ k9]
        exact mm_ri rfl (mm_at ok_Sc_told (i := 59) rfl).1 ⟨Nat.le_refl _, Nat.le_refl _⟩ (RC_q rfl hI fr_.rf)
    · cases hy : ix_ A.2.1.1 o with
      | none =>
        rw [show an_told A o (nI 5) = -2 by unfold an_told; rw [hx]; show (match ix_ A.2.1.1 o with | none => _ | some l => _) = _; rw [hy]]
        refine mm_I ok_Sc_told 0 1 1 [some (.ref 0), some (.int o), some (.int (nI 5)), none] [.int (nI 5)] (hp_SH ++ dy, g, r) [] rfl trivial rfl rfl (fun q => False.elim (absurd q (by decide))) (fun _ => ?_)
        refine mm_I ok_Sc_told 2 2 7 [some (.ref 0), some (.int o), some (.int (nI 5)), none] [.int 7, .int (nI 5)] (hp_SH ++ dy, g, r) [] rfl trivial rfl rfl (fun q => False.elim (absurd q (by decide))) (fun _ => ?_)
        refine mm_I ok_Sc_told 5 2 12 [some (.ref 0), some (.int o), some (.int (nI 5)), none] [.int 5, .int (nI 5)] (hp_SH ++ dy, g, r) [] rfl trivial rfl rfl (fun _ => ?_) (fun q => False.elim (q (by decide)))
        refine mm_B ok_Sc_told 13 2 (28, [some (.ref 0), some (.int o), some (.int (nI 5)), none], [.int o, .ref 0], (hp_SH ++ dy, g, r)) [] rfl trivial ?_
        refine mm_cV (as := [.int o]) (st := []) (q := 0) cw_Sc_isChild lk_Sc_105 in_Sc_isChild sl_Sc_isChild rfl rfl (mm_at ok_Sc_told (i := 15) rfl).1 (ct_Sc_isChild dy g r o) (by decide) ⟨by omega, by omega⟩ (Nat.le_of_ble_eq_true rfl) (mm_vs_b (b := 77) rfl (hp_len dy)) (fun v h' hqq => ?_)
        obtain ⟨rfl, hqe⟩ := hqq; rw [hqe]
        rw [cx_ e21 o, hy]
        refine mm_I ok_Sc_told 16 0 31 [some (.ref 0), some (.int o), some (.int (nI 5)), none] [.int (iz_ none)] (hp_SH ++ dy, g, r) [] rfl trivial rfl rfl (fun q => False.elim (q rfl)) (fun _ => ?_)
        refine mm_B ok_Sc_told 17 1 (36, [some (.ref 0), some (.int o), some (.int (nI 5)), none], [.int (-2)], (hp_SH ++ dy, g, r)) [] rfl trivial ?_
        exact mm_ri rfl (mm_at ok_Sc_told (i := 18) rfl).1 ⟨Nat.le_refl _, Nat.le_refl _⟩ (RC_q rfl hI fr_.rf)
      | some l =>
        obtain ⟨hl, rfl⟩ := ix_some (by omega) hy
        obtain ⟨e6, e7, e8⟩ := tc_f hK hl
        rw [show an_told A (nI l) (nI 5) = nI (A.2.1.2.1 l) by unfold an_told; rw [hx]; show (match ix_ A.2.1.1 (nI l) with | none => _ | some l => _) = _; rw [hy]; rfl]
        refine mm_I ok_Sc_told 0 1 1 [some (.ref 0), some (.int (nI l)), some (.int (nI 5)), none] [.int (nI 5)] (hp_SH ++ dy, g, r) [] rfl trivial rfl rfl (fun q => False.elim (absurd q (by decide))) (fun _ => ?_)
        refine mm_I ok_Sc_told 2 2 7 [some (.ref 0), some (.int (nI l)), some (.int (nI 5)), none] [.int 7, .int (nI 5)] (hp_SH ++ dy, g, r) [] rfl trivial rfl rfl (fun q => False.elim (absurd q (by decide))) (fun _ => ?_)
        refine mm_I ok_Sc_told 5 2 12 [some (.ref 0), some (.int (nI l)), some (.int (nI 5)), none] [.int 5, .int (nI 5)] (hp_SH ++ dy, g, r) [] rfl trivial rfl rfl (fun _ => ?_) (fun q => False.elim (q (by decide)))
        refine mm_B ok_Sc_told 13 2 (28, [some (.ref 0), some (.int (nI l)), some (.int (nI 5)), none], [.int (nI l), .ref 0], (hp_SH ++ dy, g, r)) [] rfl trivial ?_
        refine mm_cV (as := [.int (nI l)]) (st := []) (q := 0) cw_Sc_isChild lk_Sc_105 in_Sc_isChild sl_Sc_isChild rfl rfl (mm_at ok_Sc_told (i := 15) rfl).1 (ct_Sc_isChild dy g r (nI l)) (by decide) ⟨by omega, by omega⟩ (Nat.le_of_ble_eq_true rfl) (mm_vs_b (b := 77) rfl (hp_len dy)) (fun v h' hqq => ?_)
        obtain ⟨rfl, hqe⟩ := hqq; rw [hqe]
        rw [cx_ e21 (nI l), hy]
        refine mm_I ok_Sc_told 16 0 31 [some (.ref 0), some (.int (nI l)), some (.int (nI 5)), none] [.int (iz_ (some l))] (hp_SH ++ dy, g, r) [] rfl trivial rfl rfl (fun _ => ?_) (fun q => False.elim (one0 q))
        refine mm_B ok_Sc_told 19 5 (46, [some (.ref 0), some (.int (nI l)), some (.int (nI 5)), some (.ref 2)], [.int (nI 5)], (hp_SH ++ dy, g, r)) [] rfl trivial ?_
        refine mm_sw (tgt := 145) (mm_at ok_Sc_told (i := 24) rfl).1 (by exact Or.inr ⟨by decide, _, rfl, by decide⟩) ?_
        refine mm_B ok_Sc_told 60 4 (151, [some (.ref 0), some (.int (nI l)), some (.int (nI 5)), some (.ref 2)], [.int (g 6 ((nI l).toNatClampNeg))], (hp_SH ++ dy, g, r)) [vp_in (nI l) 6] rfl (show vp_in (nI l) 6 from (nI_vi (by omega) (by decide))) ?_
        rw [e6]
        exact mm_ri rfl (mm_at ok_Sc_told (i := 64) rfl).1 ⟨Nat.le_refl _, Nat.le_refl _⟩ (RC_q rfl hI fr_.rf)
    · cases hy : ix_ A.2.1.1 o with
      | none =>
        rw [show an_told A o (nI 6) = -2 by unfold an_told; rw [hx]; show (match ix_ A.2.1.1 o with | none => _ | some l => _) = _; rw [hy]]
        refine mm_I ok_Sc_told 0 1 1 [some (.ref 0), some (.int o), some (.int (nI 6)), none] [.int (nI 6)] (hp_SH ++ dy, g, r) [] rfl trivial rfl rfl (fun q => False.elim (absurd q (by decide))) (fun _ => ?_)
        refine mm_I ok_Sc_told 2 2 7 [some (.ref 0), some (.int o), some (.int (nI 6)), none] [.int 7, .int (nI 6)] (hp_SH ++ dy, g, r) [] rfl trivial rfl rfl (fun q => False.elim (absurd q (by decide))) (fun _ => ?_)
        refine mm_I ok_Sc_told 5 2 12 [some (.ref 0), some (.int o), some (.int (nI 6)), none] [.int 5, .int (nI 6)] (hp_SH ++ dy, g, r) [] rfl trivial rfl rfl (fun _ => ?_) (fun q => False.elim (q (by decide)))
        refine mm_B ok_Sc_told 13 2 (28, [some (.ref 0), some (.int o), some (.int (nI 6)), none], [.int o, .ref 0], (hp_SH ++ dy, g, r)) [] rfl trivial ?_
        refine mm_cV (as := [.int o]) (st := []) (q := 0) cw_Sc_isChild lk_Sc_105 in_Sc_isChild sl_Sc_isChild rfl rfl (mm_at ok_Sc_told (i := 15) rfl).1 (ct_Sc_isChild dy g r o) (by decide) ⟨by omega, by omega⟩ (Nat.le_of_ble_eq_true rfl) (mm_vs_b (b := 77) rfl (hp_len dy)) (fun v h' hqq => ?_)
        obtain ⟨rfl, hqe⟩ := hqq; rw [hqe]
        rw [cx_ e21 o, hy]
        refine mm_I ok_Sc_told 16 0 31 [some (.ref 0), some (.int o), some (.int (nI 6)), none] [.int (iz_ none)] (hp_SH ++ dy, g, r) [] rfl trivial rfl rfl (fun q => False.elim (q rfl)) (fun _ => ?_)
        refine mm_B ok_Sc_told 17 1 (36, [some (.ref 0), some (.int o), some (.int (nI 6)), none], [.int (-2)], (hp_SH ++ dy, g, r)) [] rfl trivial ?_
        exact mm_ri rfl (mm_at ok_Sc_told (i := 18) rfl).1 ⟨Nat.le_refl _, Nat.le_refl _⟩ (RC_q rfl hI fr_.rf)
      | some l =>
        obtain ⟨hl, rfl⟩ := ix_some (by omega) hy
        obtain ⟨e6, e7, e8⟩ := tc_f hK hl
        rw [show an_told A (nI l) (nI 6) = nI (A.2.1.2.2.1 l) by unfold an_told; rw [hx]; show (match ix_ A.2.1.1 (nI l) with | none => _ | some l => _) = _; rw [hy]; rfl]
        refine mm_I ok_Sc_told 0 1 1 [some (.ref 0), some (.int (nI l)), some (.int (nI 6)), none] [.int (nI 6)] (hp_SH ++ dy, g, r) [] rfl trivial rfl rfl (fun q => False.elim (absurd q (by decide))) (fun _ => ?_)
        refine mm_I ok_Sc_told 2 2 7 [some (.ref 0), some (.int (nI l)), some (.int (nI 6)), none] [.int 7, .int (nI 6)] (hp_SH ++ dy, g, r) [] rfl trivial rfl rfl (fun q => False.elim (absurd q (by decide))) (fun _ => ?_)
        refine mm_I ok_Sc_told 5 2 12 [some (.ref 0), some (.int (nI l)), some (.int (nI 6)), none] [.int 5, .int (nI 6)] (hp_SH ++ dy, g, r) [] rfl trivial rfl rfl (fun _ => ?_) (fun q => False.elim (q (by decide)))
        refine mm_B ok_Sc_told 13 2 (28, [some (.ref 0), some (.int (nI l)), some (.int (nI 6)), none], [.int (nI l), .ref 0], (hp_SH ++ dy, g, r)) [] rfl trivial ?_
        refine mm_cV (as := [.int (nI l)]) (st := []) (q := 0) cw_Sc_isChild lk_Sc_105 in_Sc_isChild sl_Sc_isChild rfl rfl (mm_at ok_Sc_told (i := 15) rfl).1 (ct_Sc_isChild dy g r (nI l)) (by decide) ⟨by omega, by omega⟩ (Nat.le_of_ble_eq_true rfl) (mm_vs_b (b := 77) rfl (hp_len dy)) (fun v h' hqq => ?_)
        obtain ⟨rfl, hqe⟩ := hqq; rw [hqe]
        rw [cx_ e21 (nI l), hy]
        refine mm_I ok_Sc_told 16 0 31 [some (.ref 0), some (.int (nI l)), some (.int (nI 6)), none] [.int (iz_ (some l))] (hp_SH ++ dy, g, r) [] rfl trivial rfl rfl (fun _ => ?_) (fun q => False.elim (one0 q))
        refine mm_B ok_Sc_told 19 5 (46, [some (.ref 0), some (.int (nI l)), some (.int (nI 6)), some (.ref 2)], [.int (nI 6)], (hp_SH ++ dy, g, r)) [] rfl trivial ?_
        refine mm_sw (tgt := 152) (mm_at ok_Sc_told (i := 24) rfl).1 (by exact Or.inr ⟨by decide, _, rfl, by decide⟩) ?_
        refine mm_B ok_Sc_told 65 4 (158, [some (.ref 0), some (.int (nI l)), some (.int (nI 6)), some (.ref 2)], [.int (g 7 ((nI l).toNatClampNeg))], (hp_SH ++ dy, g, r)) [vp_in (nI l) 6] rfl (show vp_in (nI l) 6 from (nI_vi (by omega) (by decide))) ?_
        rw [e7]
        exact mm_ri rfl (mm_at ok_Sc_told (i := 69) rfl).1 ⟨Nat.le_refl _, Nat.le_refl _⟩ (RC_q rfl hI fr_.rf)
    · cases hy : ix_ A.2.1.1 o with
      | none =>
        rw [show an_told A o (nI 7) = -2 by unfold an_told; rw [hx]; show (match ix_ A.2.1.1 o with | none => _ | some l => _) = _; rw [hy]]
        refine mm_I ok_Sc_told 0 1 1 [some (.ref 0), some (.int o), some (.int (nI 7)), none] [.int (nI 7)] (hp_SH ++ dy, g, r) [] rfl trivial rfl rfl (fun q => False.elim (absurd q (by decide))) (fun _ => ?_)
        refine mm_I ok_Sc_told 2 2 7 [some (.ref 0), some (.int o), some (.int (nI 7)), none] [.int 7, .int (nI 7)] (hp_SH ++ dy, g, r) [] rfl trivial rfl rfl (fun q => False.elim (absurd q (by decide))) (fun _ => ?_)
        refine mm_I ok_Sc_told 5 2 12 [some (.ref 0), some (.int o), some (.int (nI 7)), none] [.int 5, .int (nI 7)] (hp_SH ++ dy, g, r) [] rfl trivial rfl rfl (fun _ => ?_) (fun q => False.elim (q (by decide)))
        refine mm_B ok_Sc_told 13 2 (28, [some (.ref 0), some (.int o), some (.int (nI 7)), none], [.int o, .ref 0], (hp_SH ++ dy, g, r)) [] rfl trivial ?_
        refine mm_cV (as := [.int o]) (st := []) (q := 0) cw_Sc_isChild lk_Sc_105 in_Sc_isChild sl_Sc_isChild rfl rfl (mm_at ok_Sc_told (i := 15) rfl).1 (ct_Sc_isChild dy g r o) (by decide) ⟨by omega, by omega⟩ (Nat.le_of_ble_eq_true rfl) (mm_vs_b (b := 77) rfl (hp_len dy)) (fun v h' hqq => ?_)
        obtain ⟨rfl, hqe⟩ := hqq; rw [hqe]
        rw [cx_ e21 o, hy]
        refine mm_I ok_Sc_told 16 0 31 [some (.ref 0), some (.int o), some (.int (nI 7)), none] [.int (iz_ none)] (hp_SH ++ dy, g, r) [] rfl trivial rfl rfl (fun q => False.elim (q rfl)) (fun _ => ?_)
        refine mm_B ok_Sc_told 17 1 (36, [some (.ref 0), some (.int o), some (.int (nI 7)), none], [.int (-2)], (hp_SH ++ dy, g, r)) [] rfl trivial ?_
        exact mm_ri rfl (mm_at ok_Sc_told (i := 18) rfl).1 ⟨Nat.le_refl _, Nat.le_refl _⟩ (RC_q rfl hI fr_.rf)
      | some l =>
        obtain ⟨hl, rfl⟩ := ix_some (by omega) hy
        obtain ⟨e6, e7, e8⟩ := tc_f hK hl
        rw [show an_told A (nI l) (nI 7) = nI (A.2.1.2.2.2 l) by unfold an_told; rw [hx]; show (match ix_ A.2.1.1 (nI l) with | none => _ | some l => _) = _; rw [hy]; rfl]
        refine mm_I ok_Sc_told 0 1 1 [some (.ref 0), some (.int (nI l)), some (.int (nI 7)), none] [.int (nI 7)] (hp_SH ++ dy, g, r) [] rfl trivial rfl rfl (fun q => False.elim (absurd q (by decide))) (fun _ => ?_)
        refine mm_I ok_Sc_told 2 2 7 [some (.ref 0), some (.int (nI l)), some (.int (nI 7)), none] [.int 7, .int (nI 7)] (hp_SH ++ dy, g, r) [] rfl trivial rfl rfl (fun q => False.elim (absurd q (by decide))) (fun _ => ?_)
        refine mm_I ok_Sc_told 5 2 12 [some (.ref 0), some (.int (nI l)), some (.int (nI 7)), none] [.int 5, .int (nI 7)] (hp_SH ++ dy, g, r) [] rfl trivial rfl rfl (fun _ => ?_) (fun q => False.elim (q (by decide)))
        refine mm_B ok_Sc_told 13 2 (28, [some (.ref 0), some (.int (nI l)), some (.int (nI 7)), none], [.int (nI l), .ref 0], (hp_SH ++ dy, g, r)) [] rfl trivial ?_
        refine mm_cV (as := [.int (nI l)]) (st := []) (q := 0) cw_Sc_isChild lk_Sc_105 in_Sc_isChild sl_Sc_isChild rfl rfl (mm_at ok_Sc_told (i := 15) rfl).1 (ct_Sc_isChild dy g r (nI l)) (by decide) ⟨by omega, by omega⟩ (Nat.le_of_ble_eq_true rfl) (mm_vs_b (b := 77) rfl (hp_len dy)) (fun v h' hqq => ?_)
        obtain ⟨rfl, hqe⟩ := hqq; rw [hqe]
        rw [cx_ e21 (nI l), hy]
        refine mm_I ok_Sc_told 16 0 31 [some (.ref 0), some (.int (nI l)), some (.int (nI 7)), none] [.int (iz_ (some l))] (hp_SH ++ dy, g, r) [] rfl trivial rfl rfl (fun _ => ?_) (fun q => False.elim (one0 q))
        refine mm_B ok_Sc_told 19 5 (46, [some (.ref 0), some (.int (nI l)), some (.int (nI 7)), some (.ref 2)], [.int (nI 7)], (hp_SH ++ dy, g, r)) [] rfl trivial ?_
        refine mm_sw (tgt := 159) (mm_at ok_Sc_told (i := 24) rfl).1 (by exact Or.inl ⟨by decide, by decide⟩) ?_
        refine mm_B ok_Sc_told 70 4 (165, [some (.ref 0), some (.int (nI l)), some (.int (nI 7)), some (.ref 2)], [.int (g 8 ((nI l).toNatClampNeg))], (hp_SH ++ dy, g, r)) [vp_in (nI l) 6] rfl (show vp_in (nI l) 6 from (nI_vi (by omega) (by decide))) ?_
        rw [e8]
        exact mm_ri rfl (mm_at ok_Sc_told (i := 74) rfl).1 ⟨Nat.le_refl _, Nat.le_refl _⟩ (RC_q rfl hI fr_.rf)
theorem cc_points (dy : List mm_Sh) (g : Nat → Nat → Int32) (r : (Nat → Nat → Int64) × Nat × (Nat → Int32)) {A : sA} (hI : CI dy (nr_ g) A) (hSI : SI A) (c : Int32) : mm_Ct 12 M_Sc_points [.ref 0, .int c] (hp_SH ++ dy, g, r) 0 0 (RC dy g r A (.int (an_points A c))) := by
  have hI' := hI
  obtain ⟨hL, hK, hPl, hX, hB, hS, hIm, hFd, hW⟩ := hI'
  have hR := cX_R hX
  have h4 := hL.2.1
  have h6 := hK.2.1
  have e20 : g 2 0 = nI A.1.1 := by rw [← nr_eq g (k := 2) (j := 0) rfl]; exact hL.1
  have e21 : g 2 1 = nI A.2.1.1 := by rw [← nr_eq g (k := 2) (j := 1) rfl]; exact hK.1
  have hpa : (hp_SH ++ dy)[9]? = some (.inl (0, 6)) := (hp_at dy (by decide)).trans rfl
  have hpl : ∀ b, b < 6 → g 9 b = pl_c (A.2.2.1.1 b) := fun b hb => by rw [← nr_eq g (k := 9) (j := b) rfl]; exact (hPl b hb).1
  have hot : ∀ b, b < 6 → g 10 b = pl_c (A.2.2.1.2 b) := fun b hb => by rw [← nr_eq g (k := 10) (j := b) rfl]; exact (hPl b hb).2
  have hpo : ∀ b l, b < 6 → A.2.2.1.1 b = some l → l < A.1.1 := fun b l hb h => hSI.1 b l hb (Or.inl h)
  refine mm_start pl_Sc (Nat.le_of_ble_eq_true rfl) ?_
  by_cases h1 : c = -1
  · rw [show an_points A c = nI (sp_all A.1 (aC A) A.2.1 A.2.2.1.1) by unfold an_points; rw [if_pos h1]]
    subst h1
    refine mm_I ok_Sc_points 0 2 2 [some (.ref 0), some (.int (-1))] [.int (-1), .int (-1)] (hp_SH ++ dy, g, r) [] rfl trivial rfl rfl (fun q => False.elim (q rfl)) (fun _ => ?_)
    refine mm_B ok_Sc_points 3 5 (16, [some (.ref 0), some (.int (-1))], [.ref 9, .ref 0], (hp_SH ++ dy, g, r)) [] rfl trivial ?_
    refine mm_cV (as := [.ref 9]) (st := []) (q := 0) cw_Sc_pointsOfAll lk_Sc_188 in_Sc_pointsOfAll sl_Sc_pointsOfAll rfl rfl (mm_at ok_Sc_points (i := 8) rfl).1 (ct_Sc_pointsOfAll dy g (nr_ g) r rfl hR hL hK hpa (fun _ => rfl) hpl hpo) (by decide) ⟨by omega, by omega⟩ (Nat.le_of_ble_eq_true rfl) (mm_vs_b (b := 77) rfl (hp_len dy)) (fun v h' hqq => ?_)
    obtain ⟨rfl, g1, hqe, hF1⟩ := hqq; rw [hqe]
    exact mm_ri rfl (mm_at ok_Sc_points (i := 9) rfl).1 ⟨Nat.le_refl _, Nat.le_refl _⟩ (RC_q rfl hI (hF1.mono cz_f1))
  · cases hx : ix_ A.2.1.1 c with
    | none =>
      rw [show an_points A c = -2 by unfold an_points; rw [if_neg h1, hx]]
      refine mm_I ok_Sc_points 0 2 2 [some (.ref 0), some (.int c)] [.int (-1), .int c] (hp_SH ++ dy, g, r) [] rfl trivial rfl rfl (fun _ => ?_) (fun q => False.elim (h1 q))
      refine mm_B ok_Sc_points 10 2 (22, [some (.ref 0), some (.int c)], [.int c, .ref 0], (hp_SH ++ dy, g, r)) [] rfl trivial ?_
      refine mm_cV (as := [.int c]) (st := []) (q := 0) cw_Sc_isChild lk_Sc_105 in_Sc_isChild sl_Sc_isChild rfl rfl (mm_at ok_Sc_points (i := 12) rfl).1 (ct_Sc_isChild dy g r c) (by decide) ⟨by omega, by omega⟩ (Nat.le_of_ble_eq_true rfl) (mm_vs_b (b := 77) rfl (hp_len dy)) (fun v h' hqq => ?_)
      obtain ⟨rfl, hqe⟩ := hqq; rw [hqe]
      rw [cx_ e21 c, hx]
      refine mm_I ok_Sc_points 13 0 25 [some (.ref 0), some (.int c)] [.int (iz_ none)] (hp_SH ++ dy, g, r) [] rfl trivial rfl rfl (fun _ => ?_) (fun q => False.elim (q rfl))
      refine mm_B ok_Sc_points 23 1 (51, [some (.ref 0), some (.int c)], [.int (-2)], (hp_SH ++ dy, g, r)) [] rfl trivial ?_
      exact mm_ri rfl (mm_at ok_Sc_points (i := 24) rfl).1 ⟨Nat.le_refl _, Nat.le_refl _⟩ (RC_q rfl hI fr_.rf)
    | some i =>
      rw [show an_points A c = nI (sp_pts A.1 (aC A) A.2.1 A.2.2.1.1 i) by unfold an_points; rw [if_neg h1, hx]]
      obtain ⟨hl, rfl⟩ := ix_some (by omega) hx
      refine mm_I ok_Sc_points 0 2 2 [some (.ref 0), some (.int (nI i))] [.int (-1), .int (nI i)] (hp_SH ++ dy, g, r) [] rfl trivial rfl rfl (fun _ => ?_) (fun q => False.elim (h1 q))
      refine mm_B ok_Sc_points 10 2 (22, [some (.ref 0), some (.int (nI i))], [.int (nI i), .ref 0], (hp_SH ++ dy, g, r)) [] rfl trivial ?_
      refine mm_cV (as := [.int (nI i)]) (st := []) (q := 0) cw_Sc_isChild lk_Sc_105 in_Sc_isChild sl_Sc_isChild rfl rfl (mm_at ok_Sc_points (i := 12) rfl).1 (ct_Sc_isChild dy g r (nI i)) (by decide) ⟨by omega, by omega⟩ (Nat.le_of_ble_eq_true rfl) (mm_vs_b (b := 77) rfl (hp_len dy)) (fun v h' hqq => ?_)
      obtain ⟨rfl, hqe⟩ := hqq; rw [hqe]
      rw [cx_ e21 (nI i), hx]
      refine mm_I ok_Sc_points 13 0 25 [some (.ref 0), some (.int (nI i))] [.int (iz_ (some i))] (hp_SH ++ dy, g, r) [] rfl trivial rfl rfl (fun q => False.elim (one0 q)) (fun _ => ?_)
      refine mm_B ok_Sc_points 14 7 (43, [some (.ref 0), some (.int (nI i))], [.ref 9, .int (nI i), .ref 1], (hp_SH ++ dy, g, r)) [] rfl trivial ?_
      refine mm_cV (as := [.int (nI i), .ref 9]) (st := []) (q := 1) cw_Sp_pointsOf lk_Sc_192 in_Sp_pointsOf sl_Sp_pointsOf rfl rfl (mm_at ok_Sc_points (i := 21) rfl).1 (ct_Sp_pointsOf dy g (nr_ g) r rfl hR hL hK hl hpa (fun _ => rfl) hpl hpo) (by decide) ⟨by omega, by omega⟩ (Nat.le_of_ble_eq_true rfl) (mm_vs_b (b := 77) rfl (hp_len dy)) (fun v h' hqq => ?_)
      obtain ⟨rfl, g1, hqe, hF1⟩ := hqq; rw [hqe]
      refine mm_B ok_Sc_points 22 1 (51, [some (.ref 0), some (.int (nI i))], [.int (nI (sp_pts A.1 (aC A) A.2.1 A.2.2.1.1 i))], (hp_SH ++ dy, g1, r)) [] rfl trivial ?_
      exact mm_ri rfl (mm_at ok_Sc_points (i := 24) rfl).1 ⟨Nat.le_refl _, Nat.le_refl _⟩ (RC_q rfl hI (hF1.mono cz_f1))
theorem cc_count (dy : List mm_Sh) (g : Nat → Nat → Int32) (r : (Nat → Nat → Int64) × Nat × (Nat → Int32)) {A : sA} (hI : CI dy (nr_ g) A) (hSI : SI A) (w : Int32) : mm_Ct 12 M_Sc_count [.ref 0, .int w] (hp_SH ++ dy, g, r) 0 0 (RC dy g r A (.int (an_count A w))) := by
  have hI' := hI
  obtain ⟨hL, hK, hPl, hX, hB, hS, hIm, hFd, hW⟩ := hI'
  have hR := cX_R hX
  have h4 := hL.2.1
  have h6 := hK.2.1
  have e20 : g 2 0 = nI A.1.1 := by rw [← nr_eq g (k := 2) (j := 0) rfl]; exact hL.1
  have e21 : g 2 1 = nI A.2.1.1 := by rw [← nr_eq g (k := 2) (j := 1) rfl]; exact hK.1
  have hpa : (hp_SH ++ dy)[9]? = some (.inl (0, 6)) := (hp_at dy (by decide)).trans rfl
  have hpl : ∀ b, b < 6 → g 9 b = pl_c (A.2.2.1.1 b) := fun b hb => by rw [← nr_eq g (k := 9) (j := b) rfl]; exact (hPl b hb).1
  have hot : ∀ b, b < 6 → g 10 b = pl_c (A.2.2.1.2 b) := fun b hb => by rw [← nr_eq g (k := 10) (j := b) rfl]; exact (hPl b hb).2
  have hpo : ∀ b l, b < 6 → A.2.2.1.1 b = some l → l < A.1.1 := fun b l hb h => hSI.1 b l hb (Or.inl h)
  refine mm_start pl_Sc (Nat.le_of_ble_eq_true rfl) ?_
  have e12 : g 1 2 = nI A.2.2.2.1.1 := by rw [← nr_eq g (k := 1) (j := 2) rfl]; exact hX.1
  have e22 : g 2 2 = nI A.2.2.2.1.2.2 := by rw [← nr_eq g (k := 2) (j := 2) rfl]; exact hX.2.2.1
  have e31 : g 31 1 = nI A.2.2.2.2.1.1 := by rw [← nr_eq g (k := 31) (j := 1) rfl]; exact hB.1
  cases hx : ix_ 6 w with
  | none =>
    rw [show an_count A w = -2 by unfold an_count; rw [hx]]
    have ho : w.toInt < 0 ∨ 5 < w.toInt := by rcases ix_out (by decide) hx with h | h; exact Or.inl h; exact Or.inr (by omega)
    refine mm_B ok_Sc_count 0 1 (1, [some (.ref 0), some (.int w)], [.int w], (hp_SH ++ dy, g, r)) [] rfl trivial ?_
    refine mm_sw (tgt := 103) (mm_at ok_Sc_count (i := 1) rfl).1 (by exact Or.inl ⟨ho, by decide⟩) ?_
    refine mm_B ok_Sc_count 31 1 (105, [some (.ref 0), some (.int w)], [.int (-2)], (hp_SH ++ dy, g, r)) [] rfl trivial ?_
    exact mm_ri rfl (mm_at ok_Sc_count (i := 32) rfl).1 ⟨Nat.le_refl _, Nat.le_refl _⟩ (RC_q rfl hI fr_.rf)
  | some j =>
    obtain ⟨hj, rfl⟩ := ix_some (by decide) hx
    rcases (show j = 0 ∨ j = 1 ∨ j = 2 ∨ j = 3 ∨ j = 4 ∨ j = 5 by omega) with rfl | rfl | rfl | rfl | rfl | rfl
    · rw [show an_count A (nI 0) = nI A.1.1 by unfold an_count; rw [hx]; rfl]
      refine mm_B ok_Sc_count 0 1 (1, [some (.ref 0), some (.int (nI 0))], [.int (nI 0)], (hp_SH ++ dy, g, r)) [] rfl trivial ?_
      refine mm_sw (tgt := 40) (mm_at ok_Sc_count (i := 1) rfl).1 (by exact Or.inr ⟨by decide, _, rfl, by decide⟩) ?_
      refine mm_B ok_Sc_count 2 4 (50, [some (.ref 0), some (.int (nI 0))], [.int (g 2 0)], (hp_SH ++ dy, g, r)) [] rfl trivial ?_
      rw [e20]
      exact mm_ri rfl (mm_at ok_Sc_count (i := 6) rfl).1 ⟨Nat.le_refl _, Nat.le_refl _⟩ (RC_q rfl hI fr_.rf)
    · rw [show an_count A (nI 1) = nI A.2.1.1 by unfold an_count; rw [hx]; rfl]
      refine mm_B ok_Sc_count 0 1 (1, [some (.ref 0), some (.int (nI 1))], [.int (nI 1)], (hp_SH ++ dy, g, r)) [] rfl trivial ?_
      refine mm_sw (tgt := 51) (mm_at ok_Sc_count (i := 1) rfl).1 (by exact Or.inr ⟨by decide, _, rfl, by decide⟩) ?_
      refine mm_B ok_Sc_count 7 4 (61, [some (.ref 0), some (.int (nI 1))], [.int (g 2 1)], (hp_SH ++ dy, g, r)) [] rfl trivial ?_
      rw [e21]
      exact mm_ri rfl (mm_at ok_Sc_count (i := 11) rfl).1 ⟨Nat.le_refl _, Nat.le_refl _⟩ (RC_q rfl hI fr_.rf)
    · rw [show an_count A (nI 2) = nI (sp_cnt A.2.2.1.1 6) by unfold an_count; rw [hx]; rfl]
      refine mm_B ok_Sc_count 0 1 (1, [some (.ref 0), some (.int (nI 2))], [.int (nI 2)], (hp_SH ++ dy, g, r)) [] rfl trivial ?_
      refine mm_sw (tgt := 62) (mm_at ok_Sc_count (i := 1) rfl).1 (by exact Or.inr ⟨by decide, _, rfl, by decide⟩) ?_
      refine mm_B ok_Sc_count 12 4 (72, [some (.ref 0), some (.int (nI 2))], [.ref 9], (hp_SH ++ dy, g, r)) [] rfl trivial ?_
      refine mm_cS (as := [.ref 9]) (st := []) cw_Sc_bendsWithLesson lk_Sc_261 sx_Sc_bendsWithLesson (mm_at ok_Sc_count (i := 16) rfl).1 (ct_Sc_bendsWithLesson dy g (nr_ g) r rfl hpl (fun b l hb h => by have := hpo b l hb h; omega)) (by decide) ⟨by omega, by omega⟩ (Nat.le_of_ble_eq_true rfl) (mm_vs_b (b := 77) rfl (hp_len dy)) (fun v h' hqq => ?_)
      obtain ⟨rfl, hqe⟩ := hqq; rw [hqe]
      exact mm_ri rfl (mm_at ok_Sc_count (i := 17) rfl).1 ⟨Nat.le_refl _, Nat.le_refl _⟩ (RC_q rfl hI fr_.rf)
    · rw [show an_count A (nI 3) = nI A.2.2.2.1.1 by unfold an_count; rw [hx]; rfl]
      refine mm_B ok_Sc_count 0 1 (1, [some (.ref 0), some (.int (nI 3))], [.int (nI 3)], (hp_SH ++ dy, g, r)) [] rfl trivial ?_
      refine mm_sw (tgt := 76) (mm_at ok_Sc_count (i := 1) rfl).1 (by exact Or.inr ⟨by decide, _, rfl, by decide⟩) ?_
      refine mm_B ok_Sc_count 18 3 (83, [some (.ref 0), some (.int (nI 3))], [.int (g 1 2)], (hp_SH ++ dy, g, r)) [] rfl trivial ?_
      rw [e12]
      exact mm_ri rfl (mm_at ok_Sc_count (i := 21) rfl).1 ⟨Nat.le_refl _, Nat.le_refl _⟩ (RC_q rfl hI fr_.rf)
    · rw [show an_count A (nI 4) = nI A.2.2.2.2.1.1 by unfold an_count; rw [hx]; rfl]
      refine mm_B ok_Sc_count 0 1 (1, [some (.ref 0), some (.int (nI 4))], [.int (nI 4)], (hp_SH ++ dy, g, r)) [] rfl trivial ?_
      refine mm_sw (tgt := 84) (mm_at ok_Sc_count (i := 1) rfl).1 (by exact Or.inr ⟨by decide, _, rfl, by decide⟩) ?_
      refine mm_B ok_Sc_count 22 3 (91, [some (.ref 0), some (.int (nI 4))], [.int (g 31 1)], (hp_SH ++ dy, g, r)) [] rfl trivial ?_
      rw [e31]
      exact mm_ri rfl (mm_at ok_Sc_count (i := 25) rfl).1 ⟨Nat.le_refl _, Nat.le_refl _⟩ (RC_q rfl hI fr_.rf)
    · rw [show an_count A (nI 5) = nI A.2.2.2.1.2.2 by unfold an_count; rw [hx]; rfl]
      refine mm_B ok_Sc_count 0 1 (1, [some (.ref 0), some (.int (nI 5))], [.int (nI 5)], (hp_SH ++ dy, g, r)) [] rfl trivial ?_
      refine mm_sw (tgt := 92) (mm_at ok_Sc_count (i := 1) rfl).1 (by exact Or.inr ⟨by decide, _, rfl, by decide⟩) ?_
      refine mm_B ok_Sc_count 26 4 (102, [some (.ref 0), some (.int (nI 5))], [.int (g 2 2)], (hp_SH ++ dy, g, r)) [] rfl trivial ?_
      rw [e22]
      exact mm_ri rfl (mm_at ok_Sc_count (i := 30) rfl).1 ⟨Nat.le_refl _, Nat.le_refl _⟩ (RC_q rfl hI fr_.rf)

