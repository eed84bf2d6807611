/-! ===== calls that change the state: image, back ===== -/
def nx_image (A : sA) : sA := (A.1, A.2.1, A.2.2.1, A.2.2.2.1, A.2.2.2.2.1, A.2.2.2.2.2.1, some (A.1, A.2.1, A.2.2.1, A.2.2.2.1.2.2))
def an_image (A : sA) : Int32 × sA := (nI A.2.1.1, nx_image A)
def nx_back (A : sA) (q : sp_T × sp_K × sP × Nat) : sA := (q.1, q.2.1, q.2.2.1, (A.2.2.2.1.1, A.2.2.2.1.2.1, q.2.2.2), A.2.2.2.2)
def an_back (A : sA) : Int32 × sA := match A.2.2.2.2.2.2 with
  | none => (-3, A)
  | some q => (nI q.2.1.1, nx_back A q)
theorem SI_image {A : sA} (h : SI A) (hT : ∀ l, l < A.1.1 → A.1.2.1 l < 6 ∧ A.1.2.2.1 l ≤ 9 ∧ A.1.2.2.2 l < 2 ^ l) (h6 : A.2.1.1 ≤ 6) (hK : ∀ c, c < A.2.1.1 → A.2.1.2.1 c ≤ A.2.1.2.2.1 c ∧ A.2.1.2.2.1 c ≤ 5) (ht : A.2.2.2.1.2.2 < A.2.2.2.1.1) : SI (nx_image A) :=
  ⟨h.1, Nat.le_refl _, fun l hl => ⟨rfl, hT l hl⟩, h6, hK, h.1, ht⟩
theorem SI_back {A : sA} {q : sp_T × sp_K × sP × Nat} (h : SI A) (hq : A.2.2.2.2.2.2 = some q) : SI (nx_back A q) := by
  have h2 := h.2
  rw [hq] at h2
  obtain ⟨a1, a2, a3, a4, a5, a6⟩ := h2
  refine ⟨a5, ?_⟩
  show iK q.1 A.2.2.2.1.1 A.2.2.2.2.2.2
  rw [hq]
  exact ⟨Nat.le_refl _, fun l hl => ⟨rfl, (a2 l hl).2⟩, a3, a4, a5, a6⟩
theorem cp_sp (g : Nat → Nat → Int32) (k0 k1 n : Nat) (N : Int32) (hN : N.toNatClampNeg = n) : ∃ g', g' = mm_cp g k0 k1 (Int32.toNatClampNeg 0) (Int32.toNatClampNeg 0) (Int32.toNatClampNeg N) ∧ (∀ a j, a ≠ k1 → g' a j = g a j) ∧ ∀ j, j < n → g' k1 j = g k0 j := by
  refine ⟨_, rfl, fun a j h => by simp [mm_cp, beq_false_of_ne h], fun j hj => ?_⟩
  rw [hN]
  show (bif (k1 == k1) then va_cpy (g k0) (g k1) 0 0 n j else _) = _
  simp [va_cpy, hj]
theorem ct_Bo_become_keep (dy : List mm_Sh) (g : Nat → Nat → Int32) (r : (Nat → Nat → Int64) × Nat × (Nat → Int32)) : mm_Ct 10 M_Bo_become [.ref 34, .ref 2] (hp_SH ++ dy, g, r) 0 0 (fun v h' => v = none ∧ ∃ g', h' = (hp_SH ++ dy, g', r) ∧ ((g' 34 0 = g 2 0 ∧ g' 34 1 = g 2 1 ∧ g' 34 2 = g 2 2) ∧ (∀ j, j < 4 → g' 35 j = g 3 j ∧ g' 36 j = g 4 j ∧ g' 37 j = g 5 j) ∧ (∀ j, j < 6 → g' 38 j = g 6 j ∧ g' 39 j = g 7 j ∧ g' 40 j = g 8 j ∧ g' 41 j = g 9 j ∧ g' 42 j = g 10 j)) ∧ ∀ k j, (k < 34 ∨ 42 < k) → g' k j = g k j) := by
  refine mm_start pl_Bo (Nat.le_of_ble_eq_true rfl) ?_
  refine mm_B ok_Bo_become 0 19 (35, [some (.ref 34), some (.ref 2)], [.int 4, .int 0, .ref 35, .int 0, .ref 3], (hp_SH ++ dy, mm_up (mm_up (mm_up g 34 0 (g 2 0)) 34 1 (g 2 1)) 34 2 (g 2 2), r)) [] rfl trivial ?_
  obtain ⟨g0, hg0⟩ : ∃ x, x = mm_up (mm_up (mm_up g 34 0 (g 2 0)) 34 1 (g 2 1)) 34 2 (g 2 2) := ⟨_, rfl⟩
  rw [← hg0]
  refine mm_acopy (k0 := 3) (k1 := 35) (n0 := 4) (n1 := 4) lk_Bo_52 nt_copy sx_copy ii_System ((hp_at dy (by decide)).trans rfl) ((hp_at dy (by decide)).trans rfl) (by decide) (by decide) (by decide) (by decide) (by decide) (by decide) (Nat.le_of_ble_eq_true rfl) (mm_at ok_Bo_become (i := 19) rfl).1 ?_
  obtain ⟨g1, hg1, hn1, he1⟩ := cp_sp g0 3 35 4 4 rfl
  show mm_W _ _ _ _ _ _ _ (38, [some (.ref 34), some (.ref 2)], [], (hp_SH ++ dy, (mm_cp g0 3 35 (Int32.toNatClampNeg 0) (Int32.toNatClampNeg 0) (Int32.toNatClampNeg 4)), r))
  rw [← hg1]
  refine mm_B ok_Bo_become 20 7 (49, [some (.ref 34), some (.ref 2)], [.int 4, .int 0, .ref 36, .int 0, .ref 4], (hp_SH ++ dy, g1, r)) [] rfl trivial ?_
  refine mm_acopy (k0 := 4) (k1 := 36) (n0 := 4) (n1 := 4) lk_Bo_52 nt_copy sx_copy ii_System ((hp_at dy (by decide)).trans rfl) ((hp_at dy (by decide)).trans rfl) (by decide) (by decide) (by decide) (by decide) (by decide) (by decide) (Nat.le_of_ble_eq_true rfl) (mm_at ok_Bo_become (i := 27) rfl).1 ?_
  obtain ⟨g2, hg2, hn2, he2⟩ := cp_sp g1 4 36 4 4 rfl
  show mm_W _ _ _ _ _ _ _ (52, [some (.ref 34), some (.ref 2)], [], (hp_SH ++ dy, (mm_cp g1 4 36 (Int32.toNatClampNeg 0) (Int32.toNatClampNeg 0) (Int32.toNatClampNeg 4)), r))
  rw [← hg2]
  refine mm_B ok_Bo_become 28 7 (63, [some (.ref 34), some (.ref 2)], [.int 4, .int 0, .ref 37, .int 0, .ref 5], (hp_SH ++ dy, g2, r)) [] rfl trivial ?_
  refine mm_acopy (k0 := 5) (k1 := 37) (n0 := 4) (n1 := 4) lk_Bo_52 nt_copy sx_copy ii_System ((hp_at dy (by decide)).trans rfl) ((hp_at dy (by decide)).trans rfl) (by decide) (by decide) (by decide) (by decide) (by decide) (by decide) (Nat.le_of_ble_eq_true rfl) (mm_at ok_Bo_become (i := 35) rfl).1 ?_
  obtain ⟨g3, hg3, hn3, he3⟩ := cp_sp g2 5 37 4 4 rfl
  show mm_W _ _ _ _ _ _ _ (66, [some (.ref 34), some (.ref 2)], [], (hp_SH ++ dy, (mm_cp g2 5 37 (Int32.toNatClampNeg 0) (Int32.toNatClampNeg 0) (Int32.toNatClampNeg 4)), r))
  rw [← hg3]
  refine mm_B ok_Bo_become 36 7 (78, [some (.ref 34), some (.ref 2)], [.int 6, .int 0, .ref 38, .int 0, .ref 6], (hp_SH ++ dy, g3, r)) [] rfl trivial ?_
  refine mm_acopy (k0 := 6) (k1 := 38) (n0 := 6) (n1 := 6) lk_Bo_52 nt_copy sx_copy ii_System ((hp_at dy (by decide)).trans rfl) ((hp_at dy (by decide)).trans rfl) (by decide) (by decide) (by decide) (by decide) (by decide) (by decide) (Nat.le_of_ble_eq_true rfl) (mm_at ok_Bo_become (i := 43) rfl).1 ?_
  obtain ⟨g4, hg4, hn4, he4⟩ := cp_sp g3 6 38 6 6 rfl
  show mm_W _ _ _ _ _ _ _ (81, [some (.ref 34), some (.ref 2)], [], (hp_SH ++ dy, (mm_cp g3 6 38 (Int32.toNatClampNeg 0) (Int32.toNatClampNeg 0) (Int32.toNatClampNeg 6)), r))
  rw [← hg4]
  refine mm_B ok_Bo_become 44 7 (93, [some (.ref 34), some (.ref 2)], [.int 6, .int 0, .ref 39, .int 0, .ref 7], (hp_SH ++ dy, g4, r)) [] rfl trivial ?_
  refine mm_acopy (k0 := 7) (k1 := 39) (n0 := 6) (n1 := 6) lk_Bo_52 nt_copy sx_copy ii_System ((hp_at dy (by decide)).trans rfl) ((hp_at dy (by decide)).trans rfl) (by decide) (by decide) (by decide) (by decide) (by decide) (by decide) (Nat.le_of_ble_eq_true rfl) (mm_at ok_Bo_become (i := 51) rfl).1 ?_
  obtain ⟨g5, hg5, hn5, he5⟩ := cp_sp g4 7 39 6 6 rfl
  show mm_W _ _ _ _ _ _ _ (96, [some (.ref 34), some (.ref 2)], [], (hp_SH ++ dy, (mm_cp g4 7 39 (Int32.toNatClampNeg 0) (Int32.toNatClampNeg 0) (Int32.toNatClampNeg 6)), r))
  rw [← hg5]
  refine mm_B ok_Bo_become 52 7 (108, [some (.ref 34), some (.ref 2)], [.int 6, .int 0, .ref 40, .int 0, .ref 8], (hp_SH ++ dy, g5, r)) [] rfl trivial ?_
  refine mm_acopy (k0 := 8) (k1 := 40) (n0 := 6) (n1 := 6) lk_Bo_52 nt_copy sx_copy ii_System ((hp_at dy (by decide)).trans rfl) ((hp_at dy (by decide)).trans rfl) (by decide) (by decide) (by decide) (by decide) (by decide) (by decide) (Nat.le_of_ble_eq_true rfl) (mm_at ok_Bo_become (i := 59) rfl).1 ?_
  obtain ⟨g6, hg6, hn6, he6⟩ := cp_sp g5 8 40 6 6 rfl
  show mm_W _ _ _ _ _ _ _ (111, [some (.ref 34), some (.ref 2)], [], (hp_SH ++ dy, (mm_cp g5 8 40 (Int32.toNatClampNeg 0) (Int32.toNatClampNeg 0) (Int32.toNatClampNeg 6)), r))
  rw [← hg6]
  refine mm_B ok_Bo_become 60 7 (123, [some (.ref 34), some (.ref 2)], [.int 6, .int 0, .ref 41, .int 0, .ref 9], (hp_SH ++ dy, g6, r)) [] rfl trivial ?_
  refine mm_acopy (k0 := 9) (k1 := 41) (n0 := 6) (n1 := 6) lk_Bo_52 nt_copy sx_copy ii_System ((hp_at dy (by decide)).trans rfl) ((hp_at dy (by decide)).trans rfl) (by decide) (by decide) (by decide) (by decide) (by decide) (by decide) (Nat.le_of_ble_eq_true rfl) (mm_at ok_Bo_become (i := 67) rfl).1 ?_
  obtain ⟨g7, hg7, hn7, he7⟩ := cp_sp g6 9 41 6 6 rfl
  show mm_W _ _ _ _ _ _ _ (126, [some (.ref 34), some (.ref 2)], [], (hp_SH ++ dy, (mm_cp g6 9 41 (Int32.toNatClampNeg 0) (Int32.toNatClampNeg 0) (Int32.toNatClampNeg 6)), r))
  rw [← hg7]
  refine mm_B ok_Bo_become 68 7 (138, [some (.ref 34), some (.ref 2)], [.int 6, .int 0, .ref 42, .int 0, .ref 10], (hp_SH ++ dy, g7, r)) [] rfl trivial ?_
  refine mm_acopy (k0 := 10) (k1 := 42) (n0 := 6) (n1 := 6) lk_Bo_52 nt_copy sx_copy ii_System ((hp_at dy (by decide)).trans rfl) ((hp_at dy (by decide)).trans rfl) (by decide) (by decide) (by decide) (by decide) (by decide) (by decide) (Nat.le_of_ble_eq_true rfl) (mm_at ok_Bo_become (i := 75) rfl).1 ?_
  obtain ⟨g8, hg8, hn8, he8⟩ := cp_sp g7 10 42 6 6 rfl
  show mm_W _ _ _ _ _ _ _ (141, [some (.ref 34), some (.ref 2)], [], (hp_SH ++ dy, (mm_cp g7 10 42 (Int32.toNatClampNeg 0) (Int32.toNatClampNeg 0) (Int32.toNatClampNeg 6)), r))
  rw [← hg8]
  have hz : ∀ x j, x ≠ 34 → g0 x j = g x j := fun x j h => by rw [hg0, up_off (by omega), up_off (by omega), up_off (by omega)]
  have hA : g8 34 0 = g 2 0 ∧ g8 34 1 = g 2 1 ∧ g8 34 2 = g 2 2 := ⟨by rw [hn8 _ _ (by decide), hn7 _ _ (by decide), hn6 _ _ (by decide), hn5 _ _ (by decide), hn4 _ _ (by decide), hn3 _ _ (by decide), hn2 _ _ (by decide), hn1 _ _ (by decide), hg0, up_off (by omega), up_off (by omega), mm_up_at], by rw [hn8 _ _ (by decide), hn7 _ _ (by decide), hn6 _ _ (by decide), hn5 _ _ (by decide), hn4 _ _ (by decide), hn3 _ _ (by decide), hn2 _ _ (by decide), hn1 _ _ (by decide), hg0, up_off (by omega), mm_up_at], by rw [hn8 _ _ (by decide), hn7 _ _ (by decide), hn6 _ _ (by decide), hn5 _ _ (by decide), hn4 _ _ (by decide), hn3 _ _ (by decide), hn2 _ _ (by decide), hn1 _ _ (by decide), hg0, mm_up_at]⟩
  exact mm_r0 rfl (mm_at ok_Bo_become (i := 76) rfl).1 ⟨Nat.le_refl _, Nat.le_refl _⟩ (⟨rfl, g8, rfl, ⟨hA, fun j hj => ⟨by rw [hn8 _ _ (by decide), hn7 _ _ (by decide), hn6 _ _ (by decide), hn5 _ _ (by decide), hn4 _ _ (by decide), hn3 _ _ (by decide), hn2 _ _ (by decide), he1 j hj, hz _ _ (by decide)], by rw [hn8 _ _ (by decide), hn7 _ _ (by decide), hn6 _ _ (by decide), hn5 _ _ (by decide), hn4 _ _ (by decide), hn3 _ _ (by decide), he2 j hj, hn1 _ _ (by decide), hz _ _ (by decide)], by rw [hn8 _ _ (by decide), hn7 _ _ (by decide), hn6 _ _ (by decide), hn5 _ _ (by decide), hn4 _ _ (by decide), he3 j hj, hn2 _ _ (by decide), hn1 _ _ (by decide), hz _ _ (by decide)]⟩, fun j hj => ⟨by rw [hn8 _ _ (by decide), hn7 _ _ (by decide), hn6 _ _ (by decide), hn5 _ _ (by decide), he4 j hj, hn3 _ _ (by decide), hn2 _ _ (by decide), hn1 _ _ (by decide), hz _ _ (by decide)], by rw [hn8 _ _ (by decide), hn7 _ _ (by decide), hn6 _ _ (by decide), he5 j hj, hn4 _ _ (by decide), hn3 _ _ (by decide), hn2 _ _ (by decide), hn1 _ _ (by decide), hz _ _ (by decide)], by rw [hn8 _ _ (by decide), hn7 _ _ (by decide), he6 j hj, hn5 _ _ (by decide), hn4 _ _ (by decide), hn3 _ _ (by decide), hn2 _ _ (by decide), hn1 _ _ (by decide), hz _ _ (by decide)], by rw [hn8 _ _ (by decide), he7 j hj, hn6 _ _ (by decide), hn5 _ _ (by decide), hn4 _ _ (by decide), hn3 _ _ (by decide), hn2 _ _ (by decide), hn1 _ _ (by decide), hz _ _ (by decide)], by rw [he8 j hj, hn7 _ _ (by decide), hn6 _ _ (by decide), hn5 _ _ (by decide), hn4 _ _ (by decide), hn3 _ _ (by decide), hn2 _ _ (by decide), hn1 _ _ (by decide), hz _ _ (by decide)]⟩⟩, fun k j h => by rw [hn8 k j (by omega), hn7 k j (by omega), hn6 k j (by omega), hn5 k j (by omega), hn4 k j (by omega), hn3 k j (by omega), hn2 k j (by omega), hn1 k j (by omega), hz k j (by omega)]⟩)
theorem ct_Bo_become_back (dy : List mm_Sh) (g : Nat → Nat → Int32) (r : (Nat → Nat → Int64) × Nat × (Nat → Int32)) : mm_Ct 10 M_Bo_become [.ref 2, .ref 34] (hp_SH ++ dy, g, r) 0 0 (fun v h' => v = none ∧ ∃ g', h' = (hp_SH ++ dy, g', r) ∧ ((g' 2 0 = g 34 0 ∧ g' 2 1 = g 34 1 ∧ g' 2 2 = g 34 2) ∧ (∀ j, j < 4 → g' 3 j = g 35 j ∧ g' 4 j = g 36 j ∧ g' 5 j = g 37 j) ∧ (∀ j, j < 6 → g' 6 j = g 38 j ∧ g' 7 j = g 39 j ∧ g' 8 j = g 40 j ∧ g' 9 j = g 41 j ∧ g' 10 j = g 42 j)) ∧ ∀ k j, (k < 2 ∨ 10 < k) → g' k j = g k j) := by
  refine mm_start pl_Bo (Nat.le_of_ble_eq_true rfl) ?_
  refine mm_B ok_Bo_become 0 19 (35, [some (.ref 2), some (.ref 34)], [.int 4, .int 0, .ref 3, .int 0, .ref 35], (hp_SH ++ dy, mm_up (mm_up (mm_up g 2 0 (g 34 0)) 2 1 (g 34 1)) 2 2 (g 34 2), r)) [] rfl trivial ?_
  obtain ⟨g0, hg0⟩ : ∃ x, x = mm_up (mm_up (mm_up g 2 0 (g 34 0)) 2 1 (g 34 1)) 2 2 (g 34 2) := ⟨_, rfl⟩
  rw [← hg0]
  refine mm_acopy (k0 := 35) (k1 := 3) (n0 := 4) (n1 := 4) lk_Bo_52 nt_copy sx_copy ii_System ((hp_at dy (by decide)).trans rfl) ((hp_at dy (by decide)).trans rfl) (by decide) (by decide) (by decide) (by decide) (by decide) (by decide) (Nat.le_of_ble_eq_true rfl) (mm_at ok_Bo_become (i := 19) rfl).1 ?_
  obtain ⟨g1, hg1, hn1, he1⟩ := cp_sp g0 35 3 4 4 rfl
  show mm_W _ _ _ _ _ _ _ (38, [some (.ref 2), some (.ref 34)], [], (hp_SH ++ dy, (mm_cp g0 35 3 (Int32.toNatClampNeg 0) (Int32.toNatClampNeg 0) (Int32.toNatClampNeg 4)), r))
  rw [← hg1]
  refine mm_B ok_Bo_become 20 7 (49, [some (.ref 2), some (.ref 34)], [.int 4, .int 0, .ref 4, .int 0, .ref 36], (hp_SH ++ dy, g1, r)) [] rfl trivial ?_
  refine mm_acopy (k0 := 36) (k1 := 4) (n0 := 4) (n1 := 4) lk_Bo_52 nt_copy sx_copy ii_System ((hp_at dy (by decide)).trans rfl) ((hp_at dy (by decide)).trans rfl) (by decide) (by decide) (by decide) (by decide) (by decide) (by decide) (Nat.le_of_ble_eq_true rfl) (mm_at ok_Bo_become (i := 27) rfl).1 ?_
  obtain ⟨g2, hg2, hn2, he2⟩ := cp_sp g1 36 4 4 4 rfl
  show mm_W _ _ _ _ _ _ _ (52, [some (.ref 2), some (.ref 34)], [], (hp_SH ++ dy, (mm_cp g1 36 4 (Int32.toNatClampNeg 0) (Int32.toNatClampNeg 0) (Int32.toNatClampNeg 4)), r))
  rw [← hg2]
  refine mm_B ok_Bo_become 28 7 (63, [some (.ref 2), some (.ref 34)], [.int 4, .int 0, .ref 5, .int 0, .ref 37], (hp_SH ++ dy, g2, r)) [] rfl trivial ?_
  refine mm_acopy (k0 := 37) (k1 := 5) (n0 := 4) (n1 := 4) lk_Bo_52 nt_copy sx_copy ii_System ((hp_at dy (by decide)).trans rfl) ((hp_at dy (by decide)).trans rfl) (by decide) (by decide) (by decide) (by decide) (by decide) (by decide) (Nat.le_of_ble_eq_true rfl) (mm_at ok_Bo_become (i := 35) rfl).1 ?_
  obtain ⟨g3, hg3, hn3, he3⟩ := cp_sp g2 37 5 4 4 rfl
  show mm_W _ _ _ _ _ _ _ (66, [some (.ref 2), some (.ref 34)], [], (hp_SH ++ dy, (mm_cp g2 37 5 (Int32.toNatClampNeg 0) (Int32.toNatClampNeg 0) (Int32.toNatClampNeg 4)), r))
  rw [← hg3]
  refine mm_B ok_Bo_become 36 7 (78, [some (.ref 2), some (.ref 34)], [.int 6, .int 0, .ref 6, .int 0, .ref 38], (hp_SH ++ dy, g3, r)) [] rfl trivial ?_
  refine mm_acopy (k0 := 38) (k1 := 6) (n0 := 6) (n1 := 6) lk_Bo_52 nt_copy sx_copy ii_System ((hp_at dy (by decide)).trans rfl) ((hp_at dy (by decide)).trans rfl) (by decide) (by decide) (by decide) (by decide) (by decide) (by decide) (Nat.le_of_ble_eq_true rfl) (mm_at ok_Bo_become (i := 43) rfl).1 ?_
  obtain ⟨g4, hg4, hn4, he4⟩ := cp_sp g3 38 6 6 6 rfl
  show mm_W _ _ _ _ _ _ _ (81, [some (.ref 2), some (.ref 34)], [], (hp_SH ++ dy, (mm_cp g3 38 6 (Int32.toNatClampNeg 0) (Int32.toNatClampNeg 0) (Int32.toNatClampNeg 6)), r))
  rw [← hg4]
  refine mm_B ok_Bo_become 44 7 (93, [some (.ref 2), some (.ref 34)], [.int 6, .int 0, .ref 7, .int 0, .ref 39], (hp_SH ++ dy, g4, r)) [] rfl trivial ?_
  refine mm_acopy (k0 := 39) (k1 := 7) (n0 := 6) (n1 := 6) lk_Bo_52 nt_copy sx_copy ii_System ((hp_at dy (by decide)).trans rfl) ((hp_at dy (by decide)).trans rfl) (by decide) (by decide) (by decide) (by decide) (by decide) (by decide) (Nat.le_of_ble_eq_true rfl) (mm_at ok_Bo_become (i := 51) rfl).1 ?_
  obtain ⟨g5, hg5, hn5, he5⟩ := cp_sp g4 39 7 6 6 rfl
  show mm_W _ _ _ _ _ _ _ (96, [some (.ref 2), some (.ref 34)], [], (hp_SH ++ dy, (mm_cp g4 39 7 (Int32.toNatClampNeg 0) (Int32.toNatClampNeg 0) (Int32.toNatClampNeg 6)), r))
  rw [← hg5]
  refine mm_B ok_Bo_become 52 7 (108, [some (.ref 2), some (.ref 34)], [.int 6, .int 0, .ref 8, .int 0, .ref 40], (hp_SH ++ dy, g5, r)) [] rfl trivial ?_
  refine mm_acopy (k0 := 40) (k1 := 8) (n0 := 6) (n1 := 6) lk_Bo_52 nt_copy sx_copy ii_System ((hp_at dy (by decide)).trans rfl) ((hp_at dy (by decide)).trans rfl) (by decide) (by decide) (by decide) (by decide) (by decide) (by decide) (Nat.le_of_ble_eq_true rfl) (mm_at ok_Bo_become (i := 59) rfl).1 ?_
  obtain ⟨g6, hg6, hn6, he6⟩ := cp_sp g5 40 8 6 6 rfl
  show mm_W _ _ _ _ _ _ _ (111, [some (.ref 2), some (.ref 34)], [], (hp_SH ++ dy, (mm_cp g5 40 8 (Int32.toNatClampNeg 0) (Int32.toNatClampNeg 0) (Int32.toNatClampNeg 6)), r))
  rw [← hg6]
  refine mm_B ok_Bo_become 60 7 (123, [some (.ref 2), some (.ref 34)], [.int 6, .int 0, .ref 9, .int 0, .ref 41], (hp_SH ++ dy, g6, r)) [] rfl trivial ?_
  refine mm_acopy (k0 := 41) (k1 := 9) (n0 := 6) (n1 := 6) lk_Bo_52 nt_copy sx_copy ii_System ((hp_at dy (by decide)).trans rfl) ((hp_at dy (by decide)).trans rfl) (by decide) (by decide) (by decide) (by decide) (by decide) (by decide) (Nat.le_of_ble_eq_true rfl) (mm_at ok_Bo_become (i := 67) rfl).1 ?_
  obtain ⟨g7, hg7, hn7, he7⟩ := cp_sp g6 41 9 6 6 rfl
  show mm_W _ _ _ _ _ _ _ (126, [some (.ref 2), some (.ref 34)], [], (hp_SH ++ dy, (mm_cp g6 41 9 (Int32.toNatClampNeg 0) (Int32.toNatClampNeg 0) (Int32.toNatClampNeg 6)), r))
  rw [← hg7]
  refine mm_B ok_Bo_become 68 7 (138, [some (.ref 2), some (.ref 34)], [.int 6, .int 0, .ref 10, .int 0, .ref 42], (hp_SH ++ dy, g7, r)) [] rfl trivial ?_
  refine mm_acopy (k0 := 42) (k1 := 10) (n0 := 6) (n1 := 6) lk_Bo_52 nt_copy sx_copy ii_System ((hp_at dy (by decide)).trans rfl) ((hp_at dy (by decide)).trans rfl) (by decide) (by decide) (by decide) (by decide) (by decide) (by decide) (Nat.le_of_ble_eq_true rfl) (mm_at ok_Bo_become (i := 75) rfl).1 ?_
  obtain ⟨g8, hg8, hn8, he8⟩ := cp_sp g7 42 10 6 6 rfl
  show mm_W _ _ _ _ _ _ _ (141, [some (.ref 2), some (.ref 34)], [], (hp_SH ++ dy, (mm_cp g7 42 10 (Int32.toNatClampNeg 0) (Int32.toNatClampNeg 0) (Int32.toNatClampNeg 6)), r))
  rw [← hg8]
  have hz : ∀ x j, x ≠ 2 → g0 x j = g x j := fun x j h => by rw [hg0, up_off (by omega), up_off (by omega), up_off (by omega)]
  have hA : g8 2 0 = g 34 0 ∧ g8 2 1 = g 34 1 ∧ g8 2 2 = g 34 2 := ⟨by rw [hn8 _ _ (by decide), hn7 _ _ (by decide), hn6 _ _ (by decide), hn5 _ _ (by decide), hn4 _ _ (by decide), hn3 _ _ (by decide), hn2 _ _ (by decide), hn1 _ _ (by decide), hg0, up_off (by omega), up_off (by omega), mm_up_at], by rw [hn8 _ _ (by decide), hn7 _ _ (by decide), hn6 _ _ (by decide), hn5 _ _ (by decide), hn4 _ _ (by decide), hn3 _ _ (by decide), hn2 _ _ (by decide), hn1 _ _ (by decide), hg0, up_off (by omega), mm_up_at], by rw [hn8 _ _ (by decide), hn7 _ _ (by decide), hn6 _ _ (by decide), hn5 _ _ (by decide), hn4 _ _ (by decide), hn3 _ _ (by decide), hn2 _ _ (by decide), hn1 _ _ (by decide), hg0, mm_up_at]⟩
  exact mm_r0 rfl (mm_at ok_Bo_become (i := 76) rfl).1 ⟨Nat.le_refl _, Nat.le_refl _⟩ (⟨rfl, g8, rfl, ⟨hA, fun j hj => ⟨by rw [hn8 _ _ (by decide), hn7 _ _ (by decide), hn6 _ _ (by decide), hn5 _ _ (by decide), hn4 _ _ (by decide), hn3 _ _ (by decide), hn2 _ _ (by decide), he1 j hj, hz _ _ (by decide)], by rw [hn8 _ _ (by decide), hn7 _ _ (by decide), hn6 _ _ (by decide), hn5 _ _ (by decide), hn4 _ _ (by decide), hn3 _ _ (by decide), he2 j hj, hn1 _ _ (by decide), hz _ _ (by decide)], by rw [hn8 _ _ (by decide), hn7 _ _ (by decide), hn6 _ _ (by decide), hn5 _ _ (by decide), hn4 _ _ (by decide), he3 j hj, hn2 _ _ (by decide), hn1 _ _ (by decide), hz _ _ (by decide)]⟩, fun j hj => ⟨by rw [hn8 _ _ (by decide), hn7 _ _ (by decide), hn6 _ _ (by decide), hn5 _ _ (by decide), he4 j hj, hn3 _ _ (by decide), hn2 _ _ (by decide), hn1 _ _ (by decide), hz _ _ (by decide)], by rw [hn8 _ _ (by decide), hn7 _ _ (by decide), hn6 _ _ (by decide), he5 j hj, hn4 _ _ (by decide), hn3 _ _ (by decide), hn2 _ _ (by decide), hn1 _ _ (by decide), hz _ _ (by decide)], by rw [hn8 _ _ (by decide), hn7 _ _ (by decide), he6 j hj, hn5 _ _ (by decide), hn4 _ _ (by decide), hn3 _ _ (by decide), hn2 _ _ (by decide), hn1 _ _ (by decide), hz _ _ (by decide)], by rw [hn8 _ _ (by decide), he7 j hj, hn6 _ _ (by decide), hn5 _ _ (by decide), hn4 _ _ (by decide), hn3 _ _ (by decide), hn2 _ _ (by decide), hn1 _ _ (by decide), hz _ _ (by decide)], by rw [he8 j hj, hn7 _ _ (by decide), hn6 _ _ (by decide), hn5 _ _ (by decide), hn4 _ _ (by decide), hn3 _ _ (by decide), hn2 _ _ (by decide), hn1 _ _ (by decide), hz _ _ (by decide)]⟩⟩, fun k j h => by rw [hn8 k j (by omega), hn7 k j (by omega), hn6 k j (by omega), hn5 k j (by omega), hn4 k j (by omega), hn3 k j (by omega), hn2 k j (by omega), hn1 k j (by omega), hz k j (by omega)]⟩)
theorem CI_image {dy : List mm_Sh} {A : sA} {g g' : Nat → Nat → Int32} (hI : CI dy (nr_ g) A) (h04 : g' 0 4 = 1) (hv : (g' 34 0 = g 2 0 ∧ g' 34 1 = g 2 1 ∧ g' 34 2 = g 2 2) ∧ (∀ j, j < 4 → g' 35 j = g 3 j ∧ g' 36 j = g 4 j ∧ g' 37 j = g 5 j) ∧ (∀ j, j < 6 → g' 38 j = g 6 j ∧ g' 39 j = g 7 j ∧ g' 40 j = g 8 j ∧ g' 41 j = g 9 j ∧ g' 42 j = g 10 j)) (hF : ∀ k j, ¬ (34 ≤ k ∧ k ≤ 42) → ¬ (k = 0 ∧ j = 4) → g' k j = g k j) : CI dy (nr_ g') (nx_image A) := by
  obtain ⟨hL, hK, hPl, hX, hB, hS, hIm, hFd, hW⟩ := hI
  have hP : ∀ a j, ¬ (34 ≤ a ∧ a ≤ 42) → ¬ (a = 0 ∧ j = 4) → nr_ g' a j = nr_ g a j := fun a j h1 h2 => nr_cong (hF a j h1 h2)
  obtain ⟨⟨v0, v1, v2⟩, v4, v6⟩ := hv
  refine ⟨rl_L_fr hL (fun a j h => hP a j (by omega) (by omega)), rl_C_fr hK (fun a j h => hP a j (by omega) (by omega)), cP_fr hPl (fun a j h => hP a j (by omega) (by omega)), cX_fr hX (fun a j h => hP a j (by omega) (by omega)), cB_fr hB (fun a j h => hP a j (by omega) (by omega)), cS_fr hS (fun a j h => hP a j (by omega) (by omega)), ⟨by rw [nr_eq g' rfl]; exact h04, ?_, ?_, ?_, fun l hl => ?_, fun c hc => ?_, fun b hb => ?_⟩, cF_fr hFd (fun a j h => hP a j (by omega) (by omega)), wf_P hW (fun a j h => hP a j (by omega) (by omega))⟩
  · rw [nr_eq g' rfl, v0, ← nr_eq g (k := 2) (j := 0) rfl]; exact hL.1
  · rw [nr_eq g' rfl, v1, ← nr_eq g (k := 2) (j := 1) rfl]; exact hK.1
  · rw [nr_eq g' rfl, v2, ← nr_eq g (k := 2) (j := 2) rfl]; exact hX.2.2.1
  · have h4 := hL.2.1
    have hl : l < A.1.1 := hl
    obtain ⟨w1, w2, w3⟩ := v4 l (by omega)
    obtain ⟨a1, a2, a3, a4, a5, a6⟩ := hL.2.2.1 l hl
    rw [nr_eq g rfl] at a1 a3 a5
    rw [nr_eq g' rfl, nr_eq g' rfl, nr_eq g' rfl, w1, w2, w3]
    exact ⟨a1, a3, a5⟩
  · have h6 := hK.2.1
    have hc : c < A.2.1.1 := hc
    obtain ⟨w1, w2, w3, -⟩ := v6 c (by omega)
    obtain ⟨a1, a2, a3, a4, a5⟩ := hK.2.2 c hc
    rw [nr_eq g rfl] at a1 a2 a5
    rw [nr_eq g' rfl, nr_eq g' rfl, nr_eq g' rfl, w1, w2, w3]
    exact ⟨a1, a2, a5⟩
  · obtain ⟨-, -, -, w4, w5⟩ := v6 b hb
    obtain ⟨a1, a2⟩ := hPl b hb
    rw [nr_eq g rfl] at a1 a2
    rw [nr_eq g' rfl, nr_eq g' rfl, w4, w5]
    exact ⟨a1, a2⟩
theorem CI_back {dy : List mm_Sh} {A : sA} {q : sp_T × sp_K × sP × Nat} {g g' : Nat → Nat → Int32} (hI : CI dy (nr_ g) A) (hSI : SI A) (hq : A.2.2.2.2.2.2 = some q) (h25 : g' 25 2 = 0) (hv : (g' 2 0 = g 34 0 ∧ g' 2 1 = g 34 1 ∧ g' 2 2 = g 34 2) ∧ (∀ j, j < 4 → g' 3 j = g 35 j ∧ g' 4 j = g 36 j ∧ g' 5 j = g 37 j) ∧ (∀ j, j < 6 → g' 6 j = g 38 j ∧ g' 7 j = g 39 j ∧ g' 8 j = g 40 j ∧ g' 9 j = g 41 j ∧ g' 10 j = g 42 j)) (hF : ∀ k j, ¬ (2 ≤ k ∧ k ≤ 10) → ¬ (k = 25 ∧ j = 2) → g' k j = g k j) : CI dy (nr_ g') (nx_back A q) := by
  obtain ⟨hL, hK, hPl, ⟨x1, x2, x3, x4, x5⟩, hB, hS, hIm, hFd, hW⟩ := hI
  have hP : ∀ a j, ¬ (2 ≤ a ∧ a ≤ 10) → ¬ (a = 25 ∧ j = 2) → nr_ g' a j = nr_ g a j := fun a j h1 h2 => nr_cong (hF a j h1 h2)
  obtain ⟨⟨v0, v1, v2⟩, v4, v6⟩ := hv
  have h4 := hL.2.1
  have hIm2 : cI (nr_ g) A.1 A.2.2.2.1.1 (some q) := by rw [← hq]; exact hIm
  obtain ⟨m1, m2, m3, m4, m5, m6, m7⟩ := hIm2
  have h2 := hSI.2
  rw [hq] at h2
  obtain ⟨i1, i2, i3, i4, i5, i6⟩ := h2
  refine ⟨⟨?_, Nat.le_trans i1 h4, fun l hl => ?_, fun j hj => by rw [hP 12 j (by omega) (by omega)]; exact hL.2.2.2 j hj⟩, ⟨?_, i3, fun c hc => ?_⟩, fun b hb => ?_, ⟨by rw [hP 1 2 (by omega) (by omega)]; exact x1, x2, ?_, i6, fun t ht => ?_⟩, cB_fr hB (fun a j h => hP a j (by omega) (by omega)), cS_fr hS (fun a j h => hP a j (by omega) (by omega)), cI_fr hIm (fun a j h => hP a j (by omega) (by omega)), Or.inl (by rw [nr_eq g' rfl]; exact h25), wf_P hW (fun a j h => hP a j (by omega) (by omega))⟩
  · rw [nr_eq g' rfl, v0, ← nr_eq g (k := 34) (j := 0) rfl]; exact m2
  · have hl : l < q.1.1 := hl
    obtain ⟨w1, w2, w3⟩ := v4 l (by omega)
    obtain ⟨a1, a3, a5⟩ := m5 l hl
    obtain ⟨-, b2, b4, b6⟩ := i2 l hl
    rw [nr_eq g rfl] at a1 a3 a5
    rw [nr_eq g' rfl, nr_eq g' rfl, nr_eq g' rfl, w1, w2, w3]
    exact ⟨a1, b2, a3, b4, a5, b6⟩
  · rw [nr_eq g' rfl, v1, ← nr_eq g (k := 34) (j := 1) rfl]; exact m3
  · have hc : c < q.2.1.1 := hc
    obtain ⟨w1, w2, w3, -⟩ := v6 c (by omega)
    obtain ⟨a1, a2, a5⟩ := m6 c hc
    obtain ⟨a3, a4⟩ := i4 c hc
    rw [nr_eq g rfl] at a1 a2 a5
    rw [nr_eq g' rfl, nr_eq g' rfl, nr_eq g' rfl, w1, w2, w3]
    exact ⟨a1, a2, a3, a4, a5⟩
  · obtain ⟨-, -, -, w4, w5⟩ := v6 b hb
    obtain ⟨a1, a2⟩ := m7 b hb
    rw [nr_eq g rfl] at a1 a2
    rw [nr_eq g' rfl, nr_eq g' rfl, w4, w5]
    exact ⟨a1, a2⟩
  · rw [nr_eq g' rfl, v2, ← nr_eq g (k := 34) (j := 2) rfl]; exact m4
  · obtain ⟨c, c1, c2, a0, a1, a2, c3, ca, d0, d1, d2⟩ := x5 t ht
    have hne : ∀ a, a = a0 ∨ a = a1 ∨ a = a2 → ∀ j, nr_ g' a j = nr_ g a j := fun a ha j => hP a j (by have := ca a ha; omega) (by have := ca a ha; omega)
    exact ⟨c, by rw [hP 11 t (by omega) (by omega)]; exact c1, c2, a0, a1, a2, c3, ca, rt_A_fr d0 (hne a0 (Or.inl rfl)), rt_A_fr d1 (hne a1 (Or.inr (Or.inl rfl))), rt_A_fr d2 (hne a2 (Or.inr (Or.inr rfl)))⟩
theorem cc_image (dy : List mm_Sh) (g : Nat → Nat → Int32) (r : (Nat → Nat → Int64) × Nat × (Nat → Int32)) {A : sA} (hI : CI dy (nr_ g) A) (hSI : SI A) : mm_Ct 12 M_Sc_image [.ref 0] (hp_SH ++ dy, g, r) 0 0 (RC dy g r (an_image A).2 (.int (an_image A).1)) := by
  have hI' := hI
  obtain ⟨hL, hK, hPl, hX, hB, hS, hIm, hFd, hW⟩ := hI'
  have hR := cX_R hX
  have h4 := hL.2.1
  have h16 := p2_16 h4
  have h6 := hK.2.1
  have e20 : g 2 0 = nI A.1.1 := by rw [← nr_eq g (k := 2) (j := 0) rfl]; exact hL.1
  have e21 : g 2 1 = nI A.2.1.1 := by rw [← nr_eq g (k := 2) (j := 1) rfl]; exact hK.1
  have hpa : (hp_SH ++ dy)[9]? = some (.inl (0, 6)) := (hp_at dy (by decide)).trans rfl
  have hpl : ∀ b, b < 6 → g 9 b = pl_c (A.2.2.1.1 b) := fun b hb => by rw [← nr_eq g (k := 9) (j := b) rfl]; exact (hPl b hb).1
  have hot : ∀ b, b < 6 → g 10 b = pl_c (A.2.2.1.2 b) := fun b hb => by rw [← nr_eq g (k := 10) (j := b) rfl]; exact (hPl b hb).2
  have hpo : ∀ b l, b < 6 → A.2.2.1.1 b = some l → l < A.1.1 := fun b l hb h => hSI.1 b l hb (Or.inl h)
  refine mm_start pl_Sc (Nat.le_of_ble_eq_true rfl) ?_
  rw [show an_image A = (nI A.2.1.1, nx_image A) from rfl]
  refine mm_B ok_Sc_image 0 5 (11, [some (.ref 0)], [.ref 2, .ref 34], (hp_SH ++ dy, g, r)) [] rfl trivial ?_
  refine mm_cV (as := [.ref 2]) (st := []) (q := 34) cw_Bo_become lk_Sc_257 in_Bo_become sl_Bo_become rfl rfl (mm_at ok_Sc_image (i := 5) rfl).1 (ct_Bo_become_keep dy g r) (by decide) ⟨by omega, by omega⟩ (Nat.le_of_ble_eq_true rfl) (mm_vs_b (b := 77) rfl (hp_len dy)) (fun v h' hqq => ?_)
  obtain ⟨rfl, g1, hqe, hv, hF1⟩ := hqq; rw [hqe]
  refine mm_B ok_Sc_image 6 6 (26, [some (.ref 0)], [.int (g1 34 1)], (hp_SH ++ dy, mm_up g1 0 4 1, r)) [(1 : Int32) = 0 ∨ (1 : Int32) = 1] rfl (show (1 : Int32) = 0 ∨ (1 : Int32) = 1 from (by first | exact mm_vi rfl | assumption | decide)) ?_
  rw [hv.1.2.1, e21]
  exact mm_ri rfl (mm_at ok_Sc_image (i := 12) rfl).1 ⟨Nat.le_refl _, Nat.le_refl _⟩ (RC_g rfl (CI_image hI (mm_up_at _ 0 4 _) ⟨⟨by rw [up_off (by omega)]; exact hv.1.1, by rw [up_off (by omega)]; exact hv.1.2.1, by rw [up_off (by omega)]; exact hv.1.2.2⟩, fun j hj => by rw [up_off (by omega), up_off (by omega), up_off (by omega)]; exact hv.2.1 j hj, fun j hj => by rw [up_off (by omega), up_off (by omega), up_off (by omega), up_off (by omega), up_off (by omega)]; exact hv.2.2 j hj⟩ (fun k j h1 h2 => by rw [up_off h2]; exact hF1 k j (by omega))) (fun k j h1 h2 => by rw [up_off (by omega)]; exact hF1 k j (by omega)))
theorem cc_back (dy : List mm_Sh) (g : Nat → Nat → Int32) (r : (Nat → Nat → Int64) × Nat × (Nat → Int32)) {A : sA} (hI : CI dy (nr_ g) A) (hSI : SI A) : mm_Ct 12 M_Sc_back [.ref 0] (hp_SH ++ dy, g, r) 0 0 (RC dy g r (an_back A).2 (.int (an_back A).1)) := by
  have hI' := hI
  obtain ⟨hL, hK, hPl, hX, hB, hS, hIm, hFd, hW⟩ := hI'
  have hR := cX_R hX
  have h4 := hL.2.1
  have h16 := p2_16 h4
  have h6 := hK.2.1
  have e20 : g 2 0 = nI A.1.1 := by rw [← nr_eq g (k := 2) (j := 0) rfl]; exact hL.1
  have e21 : g 2 1 = nI A.2.1.1 := by rw [← nr_eq g (k := 2) (j := 1) rfl]; exact hK.1
  have hpa : (hp_SH ++ dy)[9]? = some (.inl (0, 6)) := (hp_at dy (by decide)).trans rfl
  have hpl : ∀ b, b < 6 → g 9 b = pl_c (A.2.2.1.1 b) := fun b hb => by rw [← nr_eq g (k := 9) (j := b) rfl]; exact (hPl b hb).1
  have hot : ∀ b, b < 6 → g 10 b = pl_c (A.2.2.1.2 b) := fun b hb => by rw [← nr_eq g (k := 10) (j := b) rfl]; exact (hPl b hb).2
  have hpo : ∀ b l, b < 6 → A.2.2.1.1 b = some l → l < A.1.1 := fun b l hb h => hSI.1 b l hb (Or.inl h)
  refine mm_start pl_Sc (Nat.le_of_ble_eq_true rfl) ?_
  have e04 : g 0 4 = nr_ g 0 4 := (nr_eq g rfl).symm
  refine mm_B ok_Sc_back 0 2 (4, [some (.ref 0)], [.int (g 0 4)], (hp_SH ++ dy, g, r)) [] rfl trivial ?_
  cases hq : A.2.2.2.2.2.2 with
  | none =>
    have h0 : g 0 4 = 0 := by rw [e04]; rw [hq] at hIm; exact hIm
    rw [show an_back A = (-3, A) by unfold an_back; rw [hq]]
    refine mm_I ok_Sc_back 2 0 4 [some (.ref 0)] [.int (g 0 4)] (hp_SH ++ dy, g, r) [] rfl trivial rfl rfl (fun q => False.elim (q h0)) (fun _ => ?_)
    refine mm_B ok_Sc_back 3 1 (9, [some (.ref 0)], [.int (-3)], (hp_SH ++ dy, g, r)) [] rfl trivial ?_
    exact mm_ri rfl (mm_at ok_Sc_back (i := 4) rfl).1 ⟨Nat.le_refl _, Nat.le_refl _⟩ (RC_q rfl hI fr_.rf)
  | some q =>
    have hIm2 : cI (nr_ g) A.1 A.2.2.2.1.1 (some q) := by rw [← hq]; exact hIm
    have h1 : g 0 4 = 1 := by rw [e04]; exact hIm2.1
    have h341 : g 34 1 = nI q.2.1.1 := by rw [← nr_eq g (k := 34) (j := 1) rfl]; exact hIm2.2.2.1
    rw [show an_back A = (nI q.2.1.1, nx_back A q) by unfold an_back; rw [hq]]
    refine mm_I ok_Sc_back 2 0 4 [some (.ref 0)] [.int (g 0 4)] (hp_SH ++ dy, g, r) [] rfl trivial rfl rfl (fun _ => ?_) (fun q => False.elim (absurd (h1.symm.trans q) (by decide)))
    refine mm_B ok_Sc_back 5 5 (21, [some (.ref 0)], [.ref 34, .ref 2], (hp_SH ++ dy, g, r)) [] rfl trivial ?_
    refine mm_cV (as := [.ref 34]) (st := []) (q := 2) cw_Bo_become lk_Sc_257 in_Bo_become sl_Bo_become rfl rfl (mm_at ok_Sc_back (i := 10) rfl).1 (ct_Bo_become_back dy g r) (by decide) ⟨by omega, by omega⟩ (Nat.le_of_ble_eq_true rfl) (mm_vs_b (b := 77) rfl (hp_len dy)) (fun v h' hqq => ?_)
    obtain ⟨rfl, g1, hqe, hv, hF1⟩ := hqq; rw [hqe]
    refine mm_B ok_Sc_back 11 2 (28, [some (.ref 0)], [.ref 25], (hp_SH ++ dy, g1, r)) [] rfl trivial ?_
    refine mm_cV (as := []) (st := []) (q := 25) cw_Se_forget lk_Sc_83 in_Se_forget sl_Se_forget rfl rfl (mm_at ok_Sc_back (i := 13) rfl).1 (ct_Se_forget dy g1 r) (by decide) ⟨by omega, by omega⟩ (Nat.le_of_ble_eq_true rfl) (mm_vs_b (b := 77) rfl (hp_len dy)) (fun v h' hqq => ?_)
    obtain ⟨rfl, hqe⟩ := hqq; rw [hqe]
    refine mm_B ok_Sc_back 14 3 (38, [some (.ref 0)], [.int ((mm_up g1 25 2 0) 34 1)], (hp_SH ++ dy, mm_up g1 25 2 0, r)) [] rfl trivial ?_
    rw [up_off (by omega), hF1 34 1 (by omega), h341]
    exact mm_ri rfl (mm_at ok_Sc_back (i := 17) rfl).1 ⟨Nat.le_refl _, Nat.le_refl _⟩ (RC_g rfl (CI_back hI hSI hq (mm_up_at _ 25 2 _) ⟨⟨by rw [up_off (by omega)]; exact hv.1.1, by rw [up_off (by omega)]; exact hv.1.2.1, by rw [up_off (by omega)]; exact hv.1.2.2⟩, fun j hj => by rw [up_off (by omega), up_off (by omega), up_off (by omega)]; exact hv.2.1 j hj, fun j hj => by rw [up_off (by omega), up_off (by omega), up_off (by omega), up_off (by omega), up_off (by omega)]; exact hv.2.2 j hj⟩ (fun k j h1 h2 => by rw [up_off h2]; exact hF1 k j (by omega))) (fun k j h1 h2 => by rw [up_off (by omega)]; exact hF1 k j (by omega)))
theorem MI_image {A : sA} {g g' : Nat → Nat → Int32} (hI : MI (nr_ g) A) (e42 : g' 52 42 = g 52 10) (e43 : g' 52 43 = g 52 14) (e44 : g' 52 44 = g 52 4) (v1 : ∀ i, i < 12 → g' 72 i = g 62 i) (v2 : ∀ i, i < 6 → g' 72 (12 + i) = g 59 i ∧ g' 72 (18 + i) = g 60 i ∧ g' 72 (24 + i) = g 61 i) (v3 : ∀ i, i < 4 → g' 72 (30 + i) = g 57 i ∧ g' 72 (34 + i) = g 58 i) (hF : ∀ k j, ¬ (k = 72 ∨ (k = 52 ∧ (j = 42 ∨ j = 43 ∨ j = 44))) → g' k j = g k j) : MI (nr_ g') (nx_image A) := by
  obtain ⟨hL, hK, hPl, hX, hB, hS, hIm⟩ := hI
  have hP : ∀ a j, ¬ (a = 72 ∨ (a = 52 ∧ (j = 42 ∨ j = 43 ∨ j = 44))) → nr_ g' a j = nr_ g a j := fun a j h => nr_cong (hF a j h)
  refine ⟨rl_LM_fr hL (fun a j h => hP a j (by omega)), rl_CM_fr hK (fun a j h => hP a j (by omega)), dP_fr hPl (fun j => hP 62 j (by omega)), dX_fr hX (fun a j h => hP a j (by omega)), dB_fr hB (fun a j h => hP a j (by omega)), dS_fr hS (fun a j h => hP a j (by omega)), ?_, ?_, ?_, fun l hl => ?_, fun c hc => ?_, fun b hb => ?_⟩
  · rw [nr_eq g' rfl, e42, ← nr_eq g (k := 52) (j := 10) rfl]; exact hL.1
  · rw [nr_eq g' rfl, e43, ← nr_eq g (k := 52) (j := 14) rfl]; exact hK.1
  · rw [nr_eq g' rfl, e44, ← nr_eq g (k := 52) (j := 4) rfl]; exact hX.2.2.1
  · have h4 := hL.2.1
    have hl : l < A.1.1 := hl
    obtain ⟨w1, w2⟩ := v3 l (by omega)
    obtain ⟨a1, a2, a3, a4, a5, a6⟩ := hL.2.2 l hl
    rw [nr_eq g rfl] at a3 a5
    rw [nr_eq g' rfl, nr_eq g' rfl, w1, w2]
    exact ⟨a3, a5⟩
  · have h6 := hK.2.1
    have hc : c < A.2.1.1 := hc
    obtain ⟨w1, w2, w3⟩ := v2 c (by omega)
    obtain ⟨a1, a2, a3, a4, a5⟩ := hK.2.2 c hc
    rw [nr_eq g rfl] at a1 a2 a5
    rw [nr_eq g' rfl, nr_eq g' rfl, nr_eq g' rfl, w1, w2, w3]
    exact ⟨a1, a2, a5⟩
  · obtain ⟨a1, a2⟩ := hPl b hb
    rw [nr_eq g rfl] at a1 a2
    rw [nr_eq g' rfl, nr_eq g' rfl, v1 b (by omega), v1 (6 + b) (by omega)]
    exact ⟨a1, a2⟩
theorem MI_back {A : sA} {q : sp_T × sp_K × sP × Nat} {g g' : Nat → Nat → Int32} (hI : MI (nr_ g) A) (hSI : SI A) (hq : A.2.2.2.2.2.2 = some q) (e42 : g' 52 10 = g 52 42) (e43 : g' 52 14 = g 52 43) (e44 : g' 52 4 = g 52 44) (v1 : ∀ i, i < 12 → g' 62 i = g 72 i) (v2 : ∀ i, i < 6 → g' 59 i = g 72 (12 + i) ∧ g' 60 i = g 72 (18 + i) ∧ g' 61 i = g 72 (24 + i)) (v3 : ∀ i, i < 4 → g' 57 i = g 72 (30 + i) ∧ g' 58 i = g 72 (34 + i)) (hF : ∀ k j, ¬ (k = 62 ∨ k = 59 ∨ k = 60 ∨ k = 61 ∨ k = 57 ∨ k = 58 ∨ (k = 52 ∧ (j = 10 ∨ j = 14 ∨ j = 4))) → g' k j = g k j) : MI (nr_ g') (nx_back A q) := by
  obtain ⟨hL, hK, hPl, ⟨x1, x2, x3, x4, x5⟩, hB, hS, hIm⟩ := hI
  have hP : ∀ a j, ¬ (a = 62 ∨ a = 59 ∨ a = 60 ∨ a = 61 ∨ a = 57 ∨ a = 58 ∨ (a = 52 ∧ (j = 10 ∨ j = 14 ∨ j = 4))) → nr_ g' a j = nr_ g a j := fun a j h => nr_cong (hF a j h)
  have h4 := hL.2.1
  have hIm2 : dI (nr_ g) (some q) := by rw [← hq]; exact hIm
  obtain ⟨m2, m3, m4, m5, m6, m7⟩ := hIm2
  have h2 := hSI.2
  rw [hq] at h2
  obtain ⟨i1, i2, i3, i4, i5, i6⟩ := h2
  refine ⟨⟨?_, Nat.le_trans i1 h4, fun l hl => ?_⟩, ⟨?_, i3, fun c hc => ?_⟩, fun b hb => ?_, ⟨by rw [hP 52 3 (by omega)]; exact x1, x2, ?_, i6, fun t ht => ?_⟩, dB_fr hB (fun a j h => hP a j (by omega)), dS_fr hS (fun a j h => hP a j (by omega)), dI_fr hIm (fun a j h => hP a j (by omega))⟩
  · rw [nr_eq g' rfl, e42, ← nr_eq g (k := 52) (j := 42) rfl]; exact m2
  · have hl : l < q.1.1 := hl
    obtain ⟨w1, w2⟩ := v3 l (by omega)
    obtain ⟨a3, a5⟩ := m5 l hl
    obtain ⟨b1, b2, b4, b6⟩ := i2 l hl
    obtain ⟨a1, -⟩ := hL.2.2 l (by omega)
    rw [← b1] at a1
    rw [nr_eq g rfl] at a3 a5
    rw [hP 56 l (by omega), nr_eq g' rfl, nr_eq g' rfl, w1, w2]
    exact ⟨a1, b2, a3, b4, a5, b6⟩
  · rw [nr_eq g' rfl, e43, ← nr_eq g (k := 52) (j := 43) rfl]; exact m3
  · have hc : c < q.2.1.1 := hc
    obtain ⟨w1, w2, w3⟩ := v2 c (by omega)
    obtain ⟨a1, a2, a5⟩ := m6 c hc
    obtain ⟨a3, a4⟩ := i4 c hc
    rw [nr_eq g rfl] at a1 a2 a5
    rw [nr_eq g' rfl, nr_eq g' rfl, nr_eq g' rfl, w1, w2, w3]
    exact ⟨a1, a2, a3, a4, a5⟩
  · obtain ⟨a1, a2⟩ := m7 b hb
    rw [nr_eq g rfl] at a1 a2
    rw [nr_eq g' rfl, nr_eq g' rfl, v1 b (by omega), v1 (6 + b) (by omega)]
    exact ⟨a1, a2⟩
  · rw [nr_eq g' rfl, e44, ← nr_eq g (k := 52) (j := 44) rfl]; exact m4
  · obtain ⟨n, F, B, c1, c2, c3, c4⟩ := x5 t ht
    exact ⟨n, F, B, by rw [hP 54 t (by omega)]; exact c1, c2, fun i hi => by rw [hP 53 _ (by omega)]; exact c3 i hi, c4⟩
theorem mi3 (dy : List mm_Sh) (g : Nat → Nat → Int32) (r : (Nat → Nat → Int64) × Nat × (Nat → Int32)) {A : sA} (hI : MI (nr_ g) A) : ∀ (m k : Nat) (g1 : Nat → Nat → Int32), k + m = 4 → (∀ a j, ¬ a = 72 → g1 a j = g a j) → (∀ i, i < 12 → g1 72 i = g 62 i) → (∀ i, i < 6 → g1 72 (12 + i) = g 59 i ∧ g1 72 (18 + i) = g 60 i ∧ g1 72 (24 + i) = g 61 i) → (∀ i, i < k → g1 72 (30 + i) = g 57 i ∧ g1 72 (34 + i) = g 58 i) → mm_W 12 M_Mo_image 0 0 (RM dy g r (nx_image A) (.int (nI A.2.1.1))) 0 0 (87, [some (.ref 52), some (.int (nI k))], [], (hp_SH ++ dy, g1, r)) := by
  intro m
  induction m with
  | zero =>
    intro k g1 hk hF v1 v2 v3
    have hk : k = 4 := by omega
    subst hk
    refine mm_I ok_Mo_image 54 2 89 [some (.ref 52), some (.int (nI 4))] [.int 4, .int (nI 4)] (hp_SH ++ dy, g1, r) [] rfl trivial rfl rfl (fun _ => ?_) (fun q => False.elim (q (by decide)))
    refine mm_B ok_Mo_image 79 14 (156, [some (.ref 52), some (.int (nI 4))], [.int (g1 52 14)], (hp_SH ++ dy, mm_up (mm_up (mm_up g1 52 42 (g1 52 10)) 52 43 (g1 52 14)) 52 44 (g1 52 4), r)) [] rfl trivial ?_
    have e14 : g 52 14 = nI A.2.1.1 := by rw [← nr_eq g (k := 52) (j := 14) rfl]; exact hI.2.1.1
    have e14' : g1 52 14 = nI A.2.1.1 := (hF 52 14 (by omega)).trans e14
    rw [e14']
    exact mm_ri rfl (mm_at ok_Mo_image (i := 93) rfl).1 ⟨Nat.le_refl _, Nat.le_refl _⟩ (RM_g rfl (MI_image hI (by rw [up_off (by omega), up_off (by omega), mm_up_at]; exact hF _ _ (by omega)) (by rw [up_off (by omega), mm_up_at]; exact e14'.symm.trans (hF 52 14 (by omega))) (by rw [mm_up_at]; exact hF _ _ (by omega)) (fun i hi => by rw [up_off (by omega), up_off (by omega), up_off (by omega)]; exact v1 i hi) (fun i hi => by rw [up_off (by omega), up_off (by omega), up_off (by omega), up_off (by omega), up_off (by omega), up_off (by omega), up_off (by omega), up_off (by omega), up_off (by omega)]; exact v2 i hi) (fun i hi => by rw [up_off (by omega), up_off (by omega), up_off (by omega), up_off (by omega), up_off (by omega), up_off (by omega)]; exact v3 i hi) (fun a j h => by rw [up_off (by omega), up_off (by omega), up_off (by omega)]; exact hF a j (by omega))) (fun a j h => by rw [up_off (by omega), up_off (by omega), up_off (by omega)]; exact hF a j (by omega)))
  | succ m ih =>
    intro k g1 hk hF v1 v2 v3
    have c30 : (30 : Int32) + nI k = nI (30 + k) := nI_add 30 k
    have c34 : (34 : Int32) + nI k = nI (34 + k) := nI_add 34 k
    refine mm_I ok_Mo_image 54 2 89 [some (.ref 52), some (.int (nI k))] [.int 4, .int (nI k)] (hp_SH ++ dy, g1, r) [] rfl trivial rfl rfl (fun q => False.elim (absurd q (nI_ge (b := 4) (show k < 4 by omega) (by decide)))) (fun _ => ?_)
    refine mm_B ok_Mo_image 57 22 (87, [some (.ref 52), some (.int ((nI k) + 1))], [], (hp_SH ++ dy, mm_up (mm_up g1 72 ((30 + (nI k)).toNatClampNeg) (g1 57 ((nI k).toNatClampNeg))) 72 ((34 + (nI k)).toNatClampNeg) (g1 58 ((nI k).toNatClampNeg)), r)) [vp_in (nI k) 4, vp_in (30 + (nI k)) 38, vp_in (nI k) 4, vp_in (34 + (nI k)) 38] rfl (show (vp_in (nI k) 4) ∧ (vp_in (30 + (nI k)) 38) ∧ (vp_in (nI k) 4) ∧ (vp_in (34 + (nI k)) 38) from ⟨((by first | exact nI_vi (by omega) (by decide) | (rw [c30]; exact nI_vi (by omega) (by decide)) | (rw [c34]; exact nI_vi (by omega) (by decide)))), ((by first | exact nI_vi (by omega) (by decide) | (rw [c30]; exact nI_vi (by omega) (by decide)) | (rw [c34]; exact nI_vi (by omega) (by decide)))), ((by first | exact nI_vi (by omega) (by decide) | (rw [c30]; exact nI_vi (by omega) (by decide)) | (rw [c34]; exact nI_vi (by omega) (by decide)))), ((by first | exact nI_vi (by omega) (by decide) | (rw [c30]; exact nI_vi (by omega) (by decide)) | (rw [c34]; exact nI_vi (by omega) (by decide))))⟩) ?_
    rw [nI_1 k, c30, c34, nI_clamp (show k < 2 ^ 31 by omega), nI_clamp (show 30 + k < 2 ^ 31 by omega), nI_clamp (show 34 + k < 2 ^ 31 by omega)]
    exact ih (k + 1) _ (by omega) (fun a j h => by rw [up_off (by omega), up_off (by omega)]; exact hF a j (by omega)) (fun i hi => by rw [up_off (by omega), up_off (by omega)]; exact v1 i hi) (fun i hi => by rw [up_off (by omega), up_off (by omega), up_off (by omega), up_off (by omega), up_off (by omega), up_off (by omega)]; exact v2 i hi) (fun i hi => by
      by_cases e : i = k
      · rw [e]; exact ⟨by rw [up_off (by omega), mm_up_at]; exact hF _ _ (by omega), by rw [mm_up_at]; exact hF _ _ (by omega)⟩
      · rw [up_off (by omega), up_off (by omega), up_off (by omega), up_off (by omega)]; exact v3 i (by omega))
theorem mi2 (dy : List mm_Sh) (g : Nat → Nat → Int32) (r : (Nat → Nat → Int64) × Nat × (Nat → Int32)) {A : sA} (hI : MI (nr_ g) A) : ∀ (m k : Nat) (g1 : Nat → Nat → Int32), k + m = 6 → (∀ a j, ¬ a = 72 → g1 a j = g a j) → (∀ i, i < 12 → g1 72 i = g 62 i) → (∀ i, i < k → g1 72 (12 + i) = g 59 i ∧ g1 72 (18 + i) = g 60 i ∧ g1 72 (24 + i) = g 61 i) → mm_W 12 M_Mo_image 0 0 (RM dy g r (nx_image A) (.int (nI A.2.1.1))) 0 0 (28, [some (.ref 52), some (.int (nI k))], [], (hp_SH ++ dy, g1, r)) := by
  intro m
  induction m with
  | zero =>
    intro k g1 hk hF v1 v2
    have hk : k = 6 := by omega
    subst hk
    refine mm_I ok_Mo_image 17 2 31 [some (.ref 52), some (.int (nI 6))] [.int 6, .int (nI 6)] (hp_SH ++ dy, g1, r) [] rfl trivial rfl rfl (fun _ => ?_) (fun q => False.elim (q (by decide)))
    refine mm_B ok_Mo_image 52 2 (87, [some (.ref 52), some (.int 0)], [], (hp_SH ++ dy, g1, r)) [] rfl trivial ?_
    exact mi3 dy g r hI 4 0 g1 rfl hF v1 v2 (fun i hi => absurd hi (Nat.not_lt_zero i))
  | succ m ih =>
    intro k g1 hk hF v1 v2
    have c12 : (12 : Int32) + nI k = nI (12 + k) := nI_add 12 k
    have c18 : (18 : Int32) + nI k = nI (18 + k) := nI_add 18 k
    have c24 : (24 : Int32) + nI k = nI (24 + k) := nI_add 24 k
    refine mm_I ok_Mo_image 17 2 31 [some (.ref 52), some (.int (nI k))] [.int 6, .int (nI k)] (hp_SH ++ dy, g1, r) [] rfl trivial rfl rfl (fun q => False.elim (absurd q (nI_ge (b := 6) (show k < 6 by omega) (by decide)))) (fun _ => ?_)
    refine mm_B ok_Mo_image 20 32 (28, [some (.ref 52), some (.int ((nI k) + 1))], [], (hp_SH ++ dy, mm_up (mm_up (mm_up g1 72 ((12 + (nI k)).toNatClampNeg) (g1 59 ((nI k).toNatClampNeg))) 72 ((18 + (nI k)).toNatClampNeg) (g1 60 ((nI k).toNatClampNeg))) 72 ((24 + (nI k)).toNatClampNeg) (g1 61 ((nI k).toNatClampNeg)), r)) [vp_in (nI k) 6, vp_in (12 + (nI k)) 38, vp_in (nI k) 6, vp_in (18 + (nI k)) 38, vp_in (nI k) 6, vp_in (24 + (nI k)) 38] rfl (show (vp_in (nI k) 6) ∧ (vp_in (12 + (nI k)) 38) ∧ (vp_in (nI k) 6) ∧ (vp_in (18 + (nI k)) 38) ∧ (vp_in (nI k) 6) ∧ (vp_in (24 + (nI k)) 38) from ⟨((by first | exact nI_vi (by omega) (by decide) | (rw [c12]; exact nI_vi (by omega) (by decide)) | (rw [c18]; exact nI_vi (by omega) (by decide)) | (rw [c24]; exact nI_vi (by omega) (by decide)))), ((by first | exact nI_vi (by omega) (by decide) | (rw [c12]; exact nI_vi (by omega) (by decide)) | (rw [c18]; exact nI_vi (by omega) (by decide)) | (rw [c24]; exact nI_vi (by omega) (by decide)))), ((by first | exact nI_vi (by omega) (by decide) | (rw [c12]; exact nI_vi (by omega) (by decide)) | (rw [c18]; exact nI_vi (by omega) (by decide)) | (rw [c24]; exact nI_vi (by omega) (by decide)))), ((by first | exact nI_vi (by omega) (by decide) | (rw [c12]; exact nI_vi (by omega) (by decide)) | (rw [c18]; exact nI_vi (by omega) (by decide)) | (rw [c24]; exact nI_vi (by omega) (by decide)))), ((by first | exact nI_vi (by omega) (by decide) | (rw [c12]; exact nI_vi (by omega) (by decide)) | (rw [c18]; exact nI_vi (by omega) (by decide)) | (rw [c24]; exact nI_vi (by omega) (by decide)))), ((by first | exact nI_vi (by omega) (by decide) | (rw [c12]; exact nI_vi (by omega) (by decide)) | (rw [c18]; exact nI_vi (by omega) (by decide)) | (rw [c24]; exact nI_vi (by omega) (by decide))))⟩) ?_
    rw [nI_1 k, c12, c18, c24, nI_clamp (show k < 2 ^ 31 by omega), nI_clamp (show 12 + k < 2 ^ 31 by omega), nI_clamp (show 18 + k < 2 ^ 31 by omega), nI_clamp (show 24 + k < 2 ^ 31 by omega)]
    exact ih (k + 1) _ (by omega) (fun a j h => by rw [up_off (by omega), up_off (by omega), up_off (by omega)]; exact hF a j (by omega)) (fun i hi => by rw [up_off (by omega), up_off (by omega), up_off (by omega)]; exact v1 i hi) (fun i hi => by
      by_cases e : i = k
      · rw [e]; exact ⟨by rw [up_off (by omega), up_off (by omega), mm_up_at]; exact hF _ _ (by omega), by rw [up_off (by omega), mm_up_at]; exact hF _ _ (by omega), by rw [mm_up_at]; exact hF _ _ (by omega)⟩
      · rw [up_off (by omega), up_off (by omega), up_off (by omega), up_off (by omega), up_off (by omega), up_off (by omega), up_off (by omega), up_off (by omega), up_off (by omega)]; exact v2 i (by omega))
theorem mi1 (dy : List mm_Sh) (g : Nat → Nat → Int32) (r : (Nat → Nat → Int64) × Nat × (Nat → Int32)) {A : sA} (hI : MI (nr_ g) A) : ∀ (m k : Nat) (g1 : Nat → Nat → Int32), k + m = 12 → (∀ a j, ¬ a = 72 → g1 a j = g a j) → (∀ i, i < k → g1 72 i = g 62 i) → mm_W 12 M_Mo_image 0 0 (RM dy g r (nx_image A) (.int (nI A.2.1.1))) 0 0 (2, [some (.ref 52), some (.int (nI k))], [], (hp_SH ++ dy, g1, r)) := by
  intro m
  induction m with
  | zero =>
    intro k g1 hk hF v1
    have hk : k = 12 := by omega
    subst hk
    refine mm_I ok_Mo_image 2 2 5 [some (.ref 52), some (.int (nI 12))] [.int 12, .int (nI 12)] (hp_SH ++ dy, g1, r) [] rfl trivial rfl rfl (fun _ => ?_) (fun q => False.elim (q (by decide)))
    refine mm_B ok_Mo_image 15 2 (28, [some (.ref 52), some (.int 0)], [], (hp_SH ++ dy, g1, r)) [] rfl trivial ?_
    exact mi2 dy g r hI 6 0 g1 rfl hF v1 (fun i hi => absurd hi (Nat.not_lt_zero i))
  | succ m ih =>
    intro k g1 hk hF v1
    refine mm_I ok_Mo_image 2 2 5 [some (.ref 52), some (.int (nI k))] [.int 12, .int (nI k)] (hp_SH ++ dy, g1, r) [] rfl trivial rfl rfl (fun q => False.elim (absurd q (nI_ge (b := 12) (show k < 12 by omega) (by decide)))) (fun _ => ?_)
    refine mm_B ok_Mo_image 5 10 (2, [some (.ref 52), some (.int ((nI k) + 1))], [], (hp_SH ++ dy, mm_up g1 72 ((nI k).toNatClampNeg) (g1 62 ((nI k).toNatClampNeg)), r)) [vp_in (nI k) 12, vp_in (nI k) 38] rfl (show (vp_in (nI k) 12) ∧ (vp_in (nI k) 38) from ⟨((by first | exact nI_vi (by omega) (by decide))), ((by first | exact nI_vi (by omega) (by decide)))⟩) ?_
    rw [nI_1 k, nI_clamp (show k < 2 ^ 31 by omega)]
    exact ih (k + 1) _ (by omega) (fun a j h => by rw [up_off (by omega)]; exact hF a j (by omega)) (fun i hi => by
      by_cases e : i = k
      · rw [e]; exact (by rw [mm_up_at]; exact hF _ _ (by omega))
      · rw [up_off (by omega)]; exact v1 i (by omega))
theorem mb3 (dy : List mm_Sh) (g : Nat → Nat → Int32) (r : (Nat → Nat → Int64) × Nat × (Nat → Int32)) {A : sA} (hI : MI (nr_ g) A) (hSI : SI A) {q : sp_T × sp_K × sP × Nat} (hq : A.2.2.2.2.2.2 = some q) : ∀ (m k : Nat) (g1 : Nat → Nat → Int32), k + m = 4 → (∀ a j, ¬ (a = 62 ∨ a = 59 ∨ a = 60 ∨ a = 61 ∨ a = 57 ∨ a = 58) → g1 a j = g a j) → (∀ i, i < 12 → g1 62 i = g 72 i) → (∀ i, i < 6 → g1 59 i = g 72 (12 + i) ∧ g1 60 i = g 72 (18 + i) ∧ g1 61 i = g 72 (24 + i)) → (∀ i, i < k → g1 57 i = g 72 (30 + i) ∧ g1 58 i = g 72 (34 + i)) → mm_W 12 M_Mo_back 0 0 (RM dy g r (nx_back A q) (.int (nI q.2.1.1))) 0 0 (98, [some (.ref 52), some (.int (nI k))], [], (hp_SH ++ dy, g1, r)) := by
  intro m
  induction m with
  | zero =>
    intro k g1 hk hF v1 v2 v3
    have hk : k = 4 := by omega
    subst hk
    refine mm_I ok_Mo_back 60 2 100 [some (.ref 52), some (.int (nI 4))] [.int 4, .int (nI 4)] (hp_SH ++ dy, g1, r) [] rfl trivial rfl rfl (fun _ => ?_) (fun q => False.elim (q (by decide)))
    refine mm_B ok_Mo_back 85 14 (167, [some (.ref 52), some (.int (nI 4))], [.int (g1 52 43)], (hp_SH ++ dy, mm_up (mm_up (mm_up g1 52 10 (g1 52 42)) 52 14 (g1 52 43)) 52 4 (g1 52 44), r)) [] rfl trivial ?_
    have hIm2 : dI (nr_ g) (some q) := by rw [← hq]; exact hI.2.2.2.2.2.2
    have e43 : g 52 43 = nI q.2.1.1 := by rw [← nr_eq g (k := 52) (j := 43) rfl]; exact hIm2.2.1
    have e43' : g1 52 43 = nI q.2.1.1 := (hF 52 43 (by omega)).trans e43
    rw [e43']
    exact mm_ri rfl (mm_at ok_Mo_back (i := 99) rfl).1 ⟨Nat.le_refl _, Nat.le_refl _⟩ (RM_g rfl (MI_back hI hSI hq (by rw [up_off (by omega), up_off (by omega), mm_up_at]; exact hF _ _ (by omega)) (by rw [up_off (by omega), mm_up_at]; exact e43'.symm.trans (hF 52 43 (by omega))) (by rw [mm_up_at]; exact hF _ _ (by omega)) (fun i hi => by rw [up_off (by omega), up_off (by omega), up_off (by omega)]; exact v1 i hi) (fun i hi => by rw [up_off (by omega), up_off (by omega), up_off (by omega), up_off (by omega), up_off (by omega), up_off (by omega), up_off (by omega), up_off (by omega), up_off (by omega)]; exact v2 i hi) (fun i hi => by rw [up_off (by omega), up_off (by omega), up_off (by omega), up_off (by omega), up_off (by omega), up_off (by omega)]; exact v3 i hi) (fun a j h => by rw [up_off (by omega), up_off (by omega), up_off (by omega)]; exact hF a j (by omega))) (fun a j h => by rw [up_off (by omega), up_off (by omega), up_off (by omega)]; exact hF a j (by omega)))
  | succ m ih =>
    intro k g1 hk hF v1 v2 v3
    have c30 : (30 : Int32) + nI k = nI (30 + k) := nI_add 30 k
    have c34 : (34 : Int32) + nI k = nI (34 + k) := nI_add 34 k
    refine mm_I ok_Mo_back 60 2 100 [some (.ref 52), some (.int (nI k))] [.int 4, .int (nI k)] (hp_SH ++ dy, g1, r) [] rfl trivial rfl rfl (fun q => False.elim (absurd q (nI_ge (b := 4) (show k < 4 by omega) (by decide)))) (fun _ => ?_)
    refine mm_B ok_Mo_back 63 22 (98, [some (.ref 52), some (.int ((nI k) + 1))], [], (hp_SH ++ dy, mm_up (mm_up g1 57 ((nI k).toNatClampNeg) (g1 72 ((30 + (nI k)).toNatClampNeg))) 58 ((nI k).toNatClampNeg) (g1 72 ((34 + (nI k)).toNatClampNeg)), r)) [vp_in (30 + (nI k)) 38, vp_in (nI k) 4, vp_in (34 + (nI k)) 38, vp_in (nI k) 4] rfl (show (vp_in (30 + (nI k)) 38) ∧ (vp_in (nI k) 4) ∧ (vp_in (34 + (nI k)) 38) ∧ (vp_in (nI k) 4) from ⟨((by first | exact nI_vi (by omega) (by decide) | (rw [c30]; exact nI_vi (by omega) (by decide)) | (rw [c34]; exact nI_vi (by omega) (by decide)))), ((by first | exact nI_vi (by omega) (by decide) | (rw [c30]; exact nI_vi (by omega) (by decide)) | (rw [c34]; exact nI_vi (by omega) (by decide)))), ((by first | exact nI_vi (by omega) (by decide) | (rw [c30]; exact nI_vi (by omega) (by decide)) | (rw [c34]; exact nI_vi (by omega) (by decide)))), ((by first | exact nI_vi (by omega) (by decide) | (rw [c30]; exact nI_vi (by omega) (by decide)) | (rw [c34]; exact nI_vi (by omega) (by decide))))⟩) ?_
    rw [nI_1 k, c30, c34, nI_clamp (show k < 2 ^ 31 by omega), nI_clamp (show 30 + k < 2 ^ 31 by omega), nI_clamp (show 34 + k < 2 ^ 31 by omega)]
    exact ih (k + 1) _ (by omega) (fun a j h => by rw [up_off (by omega), up_off (by omega)]; exact hF a j (by omega)) (fun i hi => by rw [up_off (by omega), up_off (by omega)]; exact v1 i hi) (fun i hi => by rw [up_off (by omega), up_off (by omega), up_off (by omega), up_off (by omega), up_off (by omega), up_off (by omega)]; exact v2 i hi) (fun i hi => by
      by_cases e : i = k
      · rw [e]; exact ⟨by rw [up_off (by omega), mm_up_at]; exact hF _ _ (by omega), by rw [mm_up_at]; exact hF _ _ (by omega)⟩
      · rw [up_off (by omega), up_off (by omega), up_off (by omega), up_off (by omega)]; exact v3 i (by omega))
theorem mb2 (dy : List mm_Sh) (g : Nat → Nat → Int32) (r : (Nat → Nat → Int64) × Nat × (Nat → Int32)) {A : sA} (hI : MI (nr_ g) A) (hSI : SI A) {q : sp_T × sp_K × sP × Nat} (hq : A.2.2.2.2.2.2 = some q) : ∀ (m k : Nat) (g1 : Nat → Nat → Int32), k + m = 6 → (∀ a j, ¬ (a = 62 ∨ a = 59 ∨ a = 60 ∨ a = 61 ∨ a = 57 ∨ a = 58) → g1 a j = g a j) → (∀ i, i < 12 → g1 62 i = g 72 i) → (∀ i, i < k → g1 59 i = g 72 (12 + i) ∧ g1 60 i = g 72 (18 + i) ∧ g1 61 i = g 72 (24 + i)) → mm_W 12 M_Mo_back 0 0 (RM dy g r (nx_back A q) (.int (nI q.2.1.1))) 0 0 (39, [some (.ref 52), some (.int (nI k))], [], (hp_SH ++ dy, g1, r)) := by
  intro m
  induction m with
  | zero =>
    intro k g1 hk hF v1 v2
    have hk : k = 6 := by omega
    subst hk
    refine mm_I ok_Mo_back 23 2 42 [some (.ref 52), some (.int (nI 6))] [.int 6, .int (nI 6)] (hp_SH ++ dy, g1, r) [] rfl trivial rfl rfl (fun _ => ?_) (fun q => False.elim (q (by decide)))
    refine mm_B ok_Mo_back 58 2 (98, [some (.ref 52), some (.int 0)], [], (hp_SH ++ dy, g1, r)) [] rfl trivial ?_
    exact mb3 dy g r hI hSI hq 4 0 g1 rfl hF v1 v2 (fun i hi => absurd hi (Nat.not_lt_zero i))
  | succ m ih =>
    intro k g1 hk hF v1 v2
    have c12 : (12 : Int32) + nI k = nI (12 + k) := nI_add 12 k
    have c18 : (18 : Int32) + nI k = nI (18 + k) := nI_add 18 k
    have c24 : (24 : Int32) + nI k = nI (24 + k) := nI_add 24 k
    refine mm_I ok_Mo_back 23 2 42 [some (.ref 52), some (.int (nI k))] [.int 6, .int (nI k)] (hp_SH ++ dy, g1, r) [] rfl trivial rfl rfl (fun q => False.elim (absurd q (nI_ge (b := 6) (show k < 6 by omega) (by decide)))) (fun _ => ?_)
    refine mm_B ok_Mo_back 26 32 (39, [some (.ref 52), some (.int ((nI k) + 1))], [], (hp_SH ++ dy, mm_up (mm_up (mm_up g1 59 ((nI k).toNatClampNeg) (g1 72 ((12 + (nI k)).toNatClampNeg))) 60 ((nI k).toNatClampNeg) (g1 72 ((18 + (nI k)).toNatClampNeg))) 61 ((nI k).toNatClampNeg) (g1 72 ((24 + (nI k)).toNatClampNeg)), r)) [vp_in (12 + (nI k)) 38, vp_in (nI k) 6, vp_in (18 + (nI k)) 38, vp_in (nI k) 6, vp_in (24 + (nI k)) 38, vp_in (nI k) 6] rfl (show (vp_in (12 + (nI k)) 38) ∧ (vp_in (nI k) 6) ∧ (vp_in (18 + (nI k)) 38) ∧ (vp_in (nI k) 6) ∧ (vp_in (24 + (nI k)) 38) ∧ (vp_in (nI k) 6) from ⟨((by first | exact nI_vi (by omega) (by decide) | (rw [c12]; exact nI_vi (by omega) (by decide)) | (rw [c18]; exact nI_vi (by omega) (by decide)) | (rw [c24]; exact nI_vi (by omega) (by decide)))), ((by first | exact nI_vi (by omega) (by decide) | (rw [c12]; exact nI_vi (by omega) (by decide)) | (rw [c18]; exact nI_vi (by omega) (by decide)) | (rw [c24]; exact nI_vi (by omega) (by decide)))), ((by first | exact nI_vi (by omega) (by decide) | (rw [c12]; exact nI_vi (by omega) (by decide)) | (rw [c18]; exact nI_vi (by omega) (by decide)) | (rw [c24]; exact nI_vi (by omega) (by decide)))), ((by first | exact nI_vi (by omega) (by decide) | (rw [c12]; exact nI_vi (by omega) (by decide)) | (rw [c18]; exact nI_vi (by omega) (by decide)) | (rw [c24]; exact nI_vi (by omega) (by decide)))), ((by first | exact nI_vi (by omega) (by decide) | (rw [c12]; exact nI_vi (by omega) (by decide)) | (rw [c18]; exact nI_vi (by omega) (by decide)) | (rw [c24]; exact nI_vi (by omega) (by decide)))), ((by first | exact nI_vi (by omega) (by decide) | (rw [c12]; exact nI_vi (by omega) (by decide)) | (rw [c18]; exact nI_vi (by omega) (by decide)) | (rw [c24]; exact nI_vi (by omega) (by decide))))⟩) ?_
    rw [nI_1 k, c12, c18, c24, nI_clamp (show k < 2 ^ 31 by omega), nI_clamp (show 12 + k < 2 ^ 31 by omega), nI_clamp (show 18 + k < 2 ^ 31 by omega), nI_clamp (show 24 + k < 2 ^ 31 by omega)]
    exact ih (k + 1) _ (by omega) (fun a j h => by rw [up_off (by omega), up_off (by omega), up_off (by omega)]; exact hF a j (by omega)) (fun i hi => by rw [up_off (by omega), up_off (by omega), up_off (by omega)]; exact v1 i hi) (fun i hi => by
      by_cases e : i = k
      · rw [e]; exact ⟨by rw [up_off (by omega), up_off (by omega), mm_up_at]; exact hF _ _ (by omega), by rw [up_off (by omega), mm_up_at]; exact hF _ _ (by omega), by rw [mm_up_at]; exact hF _ _ (by omega)⟩
      · rw [up_off (by omega), up_off (by omega), up_off (by omega), up_off (by omega), up_off (by omega), up_off (by omega), up_off (by omega), up_off (by omega), up_off (by omega)]; exact v2 i (by omega))
theorem mb1 (dy : List mm_Sh) (g : Nat → Nat → Int32) (r : (Nat → Nat → Int64) × Nat × (Nat → Int32)) {A : sA} (hI : MI (nr_ g) A) (hSI : SI A) {q : sp_T × sp_K × sP × Nat} (hq : A.2.2.2.2.2.2 = some q) : ∀ (m k : Nat) (g1 : Nat → Nat → Int32), k + m = 12 → (∀ a j, ¬ (a = 62 ∨ a = 59 ∨ a = 60 ∨ a = 61 ∨ a = 57 ∨ a = 58) → g1 a j = g a j) → (∀ i, i < k → g1 62 i = g 72 i) → mm_W 12 M_Mo_back 0 0 (RM dy g r (nx_back A q) (.int (nI q.2.1.1))) 0 0 (13, [some (.ref 52), some (.int (nI k))], [], (hp_SH ++ dy, g1, r)) := by
  intro m
  induction m with
  | zero =>
    intro k g1 hk hF v1
    have hk : k = 12 := by omega
    subst hk
    refine mm_I ok_Mo_back 8 2 16 [some (.ref 52), some (.int (nI 12))] [.int 12, .int (nI 12)] (hp_SH ++ dy, g1, r) [] rfl trivial rfl rfl (fun _ => ?_) (fun q => False.elim (q (by decide)))
    refine mm_B ok_Mo_back 21 2 (39, [some (.ref 52), some (.int 0)], [], (hp_SH ++ dy, g1, r)) [] rfl trivial ?_
    exact mb2 dy g r hI hSI hq 6 0 g1 rfl hF v1 (fun i hi => absurd hi (Nat.not_lt_zero i))
  | succ m ih =>
    intro k g1 hk hF v1
    refine mm_I ok_Mo_back 8 2 16 [some (.ref 52), some (.int (nI k))] [.int 12, .int (nI k)] (hp_SH ++ dy, g1, r) [] rfl trivial rfl rfl (fun q => False.elim (absurd q (nI_ge (b := 12) (show k < 12 by omega) (by decide)))) (fun _ => ?_)
    refine mm_B ok_Mo_back 11 10 (13, [some (.ref 52), some (.int ((nI k) + 1))], [], (hp_SH ++ dy, mm_up g1 62 ((nI k).toNatClampNeg) (g1 72 ((nI k).toNatClampNeg)), r)) [vp_in (nI k) 38, vp_in (nI k) 12] rfl (show (vp_in (nI k) 38) ∧ (vp_in (nI k) 12) from ⟨((by first | exact nI_vi (by omega) (by decide))), ((by first | exact nI_vi (by omega) (by decide)))⟩) ?_
    rw [nI_1 k, nI_clamp (show k < 2 ^ 31 by omega)]
    exact ih (k + 1) _ (by omega) (fun a j h => by rw [up_off (by omega)]; exact hF a j (by omega)) (fun i hi => by
      by_cases e : i = k
      · rw [e]; exact (by rw [mm_up_at]; exact hF _ _ (by omega))
      · rw [up_off (by omega)]; exact v1 i (by omega))
theorem cm_image (dy : List mm_Sh) (g : Nat → Nat → Int32) (r : (Nat → Nat → Int64) × Nat × (Nat → Int32)) {A : sA} (hI : MI (nr_ g) A) (hSI : SI A) : mm_Ct 12 M_Mo_image [.ref 52] (hp_SH ++ dy, g, r) 0 0 (RM dy g r (an_image A).2 (.int (an_image A).1)) := by
  have hI' := hI
  obtain ⟨hL, hK, hPl, hX, hB, hS, hIm⟩ := hI'
  have hR := dX_R hX
  have h4 := hL.2.1
  have h16 := p2_16 h4
  have h6 := hK.2.1
  have e10 : g 52 10 = nI A.1.1 := by rw [← nr_eq g (k := 52) (j := 10) rfl]; exact hL.1
  have e14 : g 52 14 = nI A.2.1.1 := by rw [← nr_eq g (k := 52) (j := 14) rfl]; exact hK.1
  have hpl : ∀ b, b < 6 → g 62 b = pl_c (A.2.2.1.1 b) := fun b hb => by rw [← nr_eq g (k := 62) (j := b) rfl]; exact (hPl b hb).1
  have hot : ∀ b, b < 6 → g 62 (6 + b) = pl_c (A.2.2.1.2 b) := fun b hb => by rw [← nr_eq g (k := 62) (j := 6 + b) rfl]; exact (hPl b hb).2
  have hpo : ∀ b l, b < 6 → A.2.2.1.1 b = some l → l < A.1.1 := fun b l hb h => hSI.1 b l hb (Or.inl h)
  refine mm_start pl_Mo (Nat.le_of_ble_eq_true rfl) ?_
  rw [show an_image A = (nI A.2.1.1, nx_image A) from rfl]
  refine mm_B ok_Mo_image 0 2 (2, [some (.ref 52), some (.int 0)], [], (hp_SH ++ dy, g, r)) [] rfl trivial ?_
  exact mi1 dy g r hI 12 0 g rfl (fun _ _ _ => rfl) (fun i hi => absurd hi (Nat.not_lt_zero i))
theorem cm_back (dy : List mm_Sh) (g : Nat → Nat → Int32) (r : (Nat → Nat → Int64) × Nat × (Nat → Int32)) {A : sA} (hI : MI (nr_ g) A) (hSI : SI A) : mm_Ct 12 M_Mo_back [.ref 52] (hp_SH ++ dy, g, r) 0 0 (RM dy g r (an_back A).2 (.int (an_back A).1)) := by
  have hI' := hI
  obtain ⟨hL, hK, hPl, hX, hB, hS, hIm⟩ := hI'
  have hR := dX_R hX
  have h4 := hL.2.1
  have h16 := p2_16 h4
  have h6 := hK.2.1
  have e10 : g 52 10 = nI A.1.1 := by rw [← nr_eq g (k := 52) (j := 10) rfl]; exact hL.1
  have e14 : g 52 14 = nI A.2.1.1 := by rw [← nr_eq g (k := 52) (j := 14) rfl]; exact hK.1
  have hpl : ∀ b, b < 6 → g 62 b = pl_c (A.2.2.1.1 b) := fun b hb => by rw [← nr_eq g (k := 62) (j := b) rfl]; exact (hPl b hb).1
  have hot : ∀ b, b < 6 → g 62 (6 + b) = pl_c (A.2.2.1.2 b) := fun b hb => by rw [← nr_eq g (k := 62) (j := 6 + b) rfl]; exact (hPl b hb).2
  have hpo : ∀ b l, b < 6 → A.2.2.1.1 b = some l → l < A.1.1 := fun b l hb h => hSI.1 b l hb (Or.inl h)
  refine mm_start pl_Mo (Nat.le_of_ble_eq_true rfl) ?_
  refine mm_B ok_Mo_back 0 3 (5, [some (.ref 52), none], [.int (-1), .int (g 52 42)], (hp_SH ++ dy, g, r)) [] rfl trivial ?_
  have e42 : g 52 42 = nr_ g 52 42 := (nr_eq g rfl).symm
  cases hq : A.2.2.2.2.2.2 with
  | none =>
    rw [show an_back A = (-3, A) by unfold an_back; rw [hq]]
    have h0 : g 52 42 = -1 := by rw [e42]; rw [hq] at hIm; exact hIm
    refine mm_I ok_Mo_back 3 0 5 [some (.ref 52), none] [.int (-1), .int (g 52 42)] (hp_SH ++ dy, g, r) [] rfl trivial rfl rfl (fun q => False.elim (q h0)) (fun _ => ?_)
    refine mm_B ok_Mo_back 4 1 (10, [some (.ref 52), none], [.int (-3)], (hp_SH ++ dy, g, r)) [] rfl trivial ?_
    exact mm_ri rfl (mm_at ok_Mo_back (i := 5) rfl).1 ⟨Nat.le_refl _, Nat.le_refl _⟩ (RM_q rfl hI fr_.rf)
  | some q =>
    rw [show an_back A = (nI q.2.1.1, nx_back A q) by unfold an_back; rw [hq]]
    have hIm2 : dI (nr_ g) (some q) := by rw [← hq]; exact hIm
    have h2 := hSI.2
    rw [hq] at h2
    have i1 : q.1.1 ≤ A.1.1 := h2.1
    have h0 : g 52 42 = nI q.1.1 := by rw [e42]; exact hIm2.1
    have hne : ¬ nI q.1.1 = -1 := m1_ne (by omega)
    refine mm_I ok_Mo_back 3 0 5 [some (.ref 52), none] [.int (-1), .int (g 52 42)] (hp_SH ++ dy, g, r) [] rfl trivial rfl rfl (fun _ => ?_) (fun q => False.elim (hne (h0.symm.trans q)))
    refine mm_B ok_Mo_back 6 2 (13, [some (.ref 52), some (.int 0)], [], (hp_SH ++ dy, g, r)) [] rfl trivial ?_
    exact mb1 dy g r hI hSI hq 12 0 g rfl (fun _ _ _ => rfl) (fun i hi => absurd hi (Nat.not_lt_zero i))

