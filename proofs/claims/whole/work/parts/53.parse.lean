/-! ===== the grammar: what a text is read as, with fuel; its measure ===== -/
abbrev px_ : Type := Option ((Nat × List Int32) ⊕ Nat)
def pb_ (x : px_) (k : Nat → List Int32 → px_) : px_ := match x with
  | none => none
  | some (.inr e) => some (.inr e)
  | some (.inl y) => k y.1 y.2
theorem pb_inv {x : px_} {k : Nat → List Int32 → px_} {res : (Nat × List Int32) ⊕ Nat} (h : pb_ x k = some res) : (∃ e, x = some (.inr e) ∧ res = .inr e) ∨ ∃ q c, x = some (.inl (q, c)) ∧ k q c = some res := by
  unfold pb_ at h
  split at h
  · cases h
  · cases h; exact Or.inl ⟨_, rfl, rfl⟩
  · rename_i y
    exact Or.inr ⟨y.1, y.2, rfl, h⟩
theorem pb_tot {x : px_} {k : Nat → List Int32 → px_} (hx : ∃ res, x = some res) (hk : ∀ q c, x = some (.inl (q, c)) → ∃ res, k q c = some res) : ∃ res, pb_ x k = some res := by
  obtain ⟨res, rfl⟩ := hx
  cases res with
  | inr e => exact ⟨_, rfl⟩
  | inl y => exact hk y.1 y.2 rfl
/-- the signs that go on a chain -/
def op_ (k : Nat) (t : Int32) : Prop := match k with
  | 0 => t = -7
  | 1 => t = -8
  | 4 => t = -12 ∨ t = -13
  | _ => t = -14
theorem op_tk {k : Nat} {t : Int32} (h : op_ k t) : ¬ t = -22 := by
  unfold op_ at h
  split at h
  · rw [h]; decide
  · rw [h]; decide
  · rcases h with h | h <;> rw [h] <;> decide
  · rw [h]; decide
/-- levels 0 or, 1 and, 2 not, 3 < =, 4 + -, 5 *, 6 ONE; 10 + k a chain's rest. A place and signs, or a fault's place -/
noncomputable def ps_ (B : Nat → Int32) (n : Nat) : Nat → Nat → Nat → Nat → px_
  | 0, _, _, _ => none
  | f + 1, lev, o, q => @ite _ (lev = 2) (Classical.propDecidable _) (@ite _ (tk_ B n q = -9) (Classical.propDecidable _) (@ite _ (o < 5) (Classical.propDecidable _) (pb_ (ps_ B n f 2 (o + 1) (nx_ B n q)) (fun q1 c1 => some (.inl (q1, c1 ++ [-9])))) (some (.inr (ts_ B n q)))) (ps_ B n f 3 o q))
    (@ite _ (lev = 3) (Classical.propDecidable _) (pb_ (ps_ B n f 4 o q) (fun q1 c1 => @ite _ (tk_ B n q1 = -10 ∨ tk_ B n q1 = -11) (Classical.propDecidable _) (pb_ (ps_ B n f 4 o (nx_ B n q1)) (fun q2 c2 => some (.inl (q2, c1 ++ c2 ++ [tk_ B n q1])))) (some (.inl (q1, c1)))))
    (@ite _ (lev = 6) (Classical.propDecidable _) (@ite _ (-6 ≤ tk_ B n q) (Classical.propDecidable _) (some (.inl (nx_ B n q, [tk_ B n q])))
      (@ite _ (tk_ B n q = -13 ∧ o < 5) (Classical.propDecidable _) (pb_ (ps_ B n f 6 (o + 1) (nx_ B n q)) (fun q1 c1 => some (.inl (q1, c1 ++ [-15]))))
      (@ite _ (tk_ B n q = -16 ∧ o < 5) (Classical.propDecidable _) (pb_ (ps_ B n f 0 (o + 1) (nx_ B n q)) (fun q1 c1 => @ite _ (tk_ B n q1 = -17) (Classical.propDecidable _) (some (.inl (nx_ B n q1, c1))) (some (.inr (ts_ B n q1)))))
      (some (.inr (ts_ B n q))))))
    (@ite _ (lev < 10) (Classical.propDecidable _) (pb_ (ps_ B n f (lev + 1) o q) (fun q1 c1 => pb_ (ps_ B n f (lev + 10) o q1) (fun q2 c2 => some (.inl (q2, c1 ++ c2)))))
      (@ite _ (op_ (lev - 10) (tk_ B n q)) (Classical.propDecidable _) (pb_ (ps_ B n f (lev - 9) o (nx_ B n q)) (fun q1 c1 => pb_ (ps_ B n f lev o q1) (fun q2 c2 => some (.inl (q2, c1 ++ [tk_ B n q] ++ c2))))) (some (.inl (q, [])))))))
section
variable {B : Nat → Int32} {n : Nat} {f lev o q : Nat} {res : (Nat × List Int32) ⊕ Nat}
theorem ps_2 (h : ps_ B n (f + 1) 2 o q = some res) : (tk_ B n q = -9 ∧ o < 5 ∧ pb_ (ps_ B n f 2 (o + 1) (nx_ B n q)) (fun q1 c1 => some (.inl (q1, c1 ++ [-9]))) = some res) ∨ (tk_ B n q = -9 ∧ ¬ o < 5 ∧ res = .inr (ts_ B n q)) ∨ (¬ tk_ B n q = -9 ∧ ps_ B n f 3 o q = some res) := by
  simp only [ps_] at h
  rw [if_pos trivial] at h
  split at h
  · rename_i h1
    split at h
    · rename_i h2
      exact Or.inl ⟨h1, h2, h⟩
    · rename_i h2
      exact Or.inr (Or.inl ⟨h1, h2, (Option.some.inj h).symm⟩)
  · rename_i h1
    exact Or.inr (Or.inr ⟨h1, h⟩)
theorem ps_3 (h : ps_ B n (f + 1) 3 o q = some res) : (∃ e, ps_ B n f 4 o q = some (.inr e) ∧ res = .inr e) ∨ ∃ q1 c1, ps_ B n f 4 o q = some (.inl (q1, c1)) ∧ (((tk_ B n q1 = -10 ∨ tk_ B n q1 = -11) ∧ pb_ (ps_ B n f 4 o (nx_ B n q1)) (fun q2 c2 => some (.inl (q2, c1 ++ c2 ++ [tk_ B n q1]))) = some res) ∨ (¬ (tk_ B n q1 = -10 ∨ tk_ B n q1 = -11) ∧ res = .inl (q1, c1))) := by
  simp only [ps_] at h
  rw [if_neg (by decide), if_pos trivial] at h
  rcases pb_inv h with ⟨e, h1, h2⟩ | ⟨q1, c1, h1, h2⟩
  · exact Or.inl ⟨e, h1, h2⟩
  · refine Or.inr ⟨q1, c1, h1, ?_⟩
    split at h2
    · rename_i h3
      exact Or.inl ⟨h3, h2⟩
    · rename_i h3
      exact Or.inr ⟨h3, (Option.some.inj h2).symm⟩
theorem ps_6 (h : ps_ B n (f + 1) 6 o q = some res) : (-6 ≤ tk_ B n q ∧ res = .inl (nx_ B n q, [tk_ B n q])) ∨ (¬ -6 ≤ tk_ B n q ∧ (tk_ B n q = -13 ∧ o < 5) ∧ pb_ (ps_ B n f 6 (o + 1) (nx_ B n q)) (fun q1 c1 => some (.inl (q1, c1 ++ [-15]))) = some res) ∨ (¬ -6 ≤ tk_ B n q ∧ ¬ (tk_ B n q = -13 ∧ o < 5) ∧ (tk_ B n q = -16 ∧ o < 5) ∧ ((∃ e, ps_ B n f 0 (o + 1) (nx_ B n q) = some (.inr e) ∧ res = .inr e) ∨ ∃ q1 c1, ps_ B n f 0 (o + 1) (nx_ B n q) = some (.inl (q1, c1)) ∧ ((tk_ B n q1 = -17 ∧ res = .inl (nx_ B n q1, c1)) ∨ (¬ tk_ B n q1 = -17 ∧ res = .inr (ts_ B n q1))))) ∨ (¬ -6 ≤ tk_ B n q ∧ ¬ (tk_ B n q = -13 ∧ o < 5) ∧ ¬ (tk_ B n q = -16 ∧ o < 5) ∧ res = .inr (ts_ B n q)) := by
  simp only [ps_] at h
  rw [if_neg (by decide), if_neg (by decide), if_pos trivial] at h
  split at h
  · rename_i h1
    exact Or.inl ⟨h1, (Option.some.inj h).symm⟩
  · rename_i h1
    split at h
    · rename_i h2
      exact Or.inr (Or.inl ⟨h1, h2, h⟩)
    · rename_i h2
      split at h
      · rename_i h3
        refine Or.inr (Or.inr (Or.inl ⟨h1, h2, h3, ?_⟩))
        rcases pb_inv h with ⟨e, h4, h5⟩ | ⟨q1, c1, h4, h5⟩
        · exact Or.inl ⟨e, h4, h5⟩
        · refine Or.inr ⟨q1, c1, h4, ?_⟩
          split at h5
          · rename_i h6
            exact Or.inl ⟨h6, (Option.some.inj h5).symm⟩
          · rename_i h6
            exact Or.inr ⟨h6, (Option.some.inj h5).symm⟩
      · rename_i h3
        exact Or.inr (Or.inr (Or.inr ⟨h1, h2, h3, (Option.some.inj h).symm⟩))
theorem ps_c (hl : lev = 0 ∨ lev = 1 ∨ lev = 4 ∨ lev = 5) (h : ps_ B n (f + 1) lev o q = some res) : (∃ e, ps_ B n f (lev + 1) o q = some (.inr e) ∧ res = .inr e) ∨ ∃ q1 c1, ps_ B n f (lev + 1) o q = some (.inl (q1, c1)) ∧ pb_ (ps_ B n f (lev + 10) o q1) (fun q2 c2 => some (.inl (q2, c1 ++ c2))) = some res := by
  simp only [ps_] at h
  rw [if_neg (by omega), if_neg (by omega), if_neg (by omega), if_pos (by omega)] at h
  exact pb_inv h
theorem ps_l {k : Nat} (h : ps_ B n (f + 1) (k + 10) o q = some res) : (op_ k (tk_ B n q) ∧ pb_ (ps_ B n f (k + 1) o (nx_ B n q)) (fun q1 c1 => pb_ (ps_ B n f (k + 10) o q1) (fun q2 c2 => some (.inl (q2, c1 ++ [tk_ B n q] ++ c2)))) = some res) ∨ (¬ op_ k (tk_ B n q) ∧ res = .inl (q, [])) := by
  simp only [ps_] at h
  rw [if_neg (by omega), if_neg (by omega), if_neg (by omega), if_neg (by omega), show k + 10 - 10 = k by omega, show k + 10 - 9 = k + 1 by omega] at h
  split at h
  · rename_i h1
    exact Or.inl ⟨h1, h⟩
  · rename_i h1
    exact Or.inr ⟨h1, (Option.some.inj h).symm⟩
theorem ps_x (h2 : lev ≠ 2) (h3 : lev ≠ 3) (h6 : lev ≠ 6) (hl : ¬ (lev = 0 ∨ lev = 1 ∨ lev = 4 ∨ lev = 5)) (h9 : lev < 10) (h : ps_ B n (f + 1) lev o q = some res) : (∃ e, ps_ B n f (lev + 1) o q = some (.inr e) ∧ res = .inr e) ∨ ∃ q1 c1, ps_ B n f (lev + 1) o q = some (.inl (q1, c1)) ∧ pb_ (ps_ B n f (lev + 10) o q1) (fun q2 c2 => some (.inl (q2, c1 ++ c2))) = some res := by
  simp only [ps_] at h
  rw [if_neg h2, if_neg h3, if_neg h6, if_pos h9] at h
  exact pb_inv h
end
theorem tk_ne {t : Int32} (h : -6 ≤ t) : ¬ t = -22 := fun e => absurd h (by rw [e]; decide)
theorem ps_len {B : Nat → Int32} {n : Nat} : ∀ (f lev o q q' : Nat) (c : List Int32), q ≤ n → ps_ B n f lev o q = some (.inl (q', c)) → (q + c.length ≤ q' ∧ q' ≤ n) ∧ (lev ≤ 6 → q < q') := by
  intro f
  induction f with
  | zero => intro lev o q q' c _ h; cases h
  | succ f ih =>
    intro lev o q q' c hq h
    by_cases l2 : lev = 2
    · subst l2
      rcases ps_2 h with ⟨h1, h2, h3⟩ | ⟨h1, h2, h3⟩ | ⟨h1, h3⟩
      · rcases pb_inv h3 with ⟨e, h4, h5⟩ | ⟨q1, c1, h4, h5⟩
        · cases h5
        · cases h5
          have hx := nx_lt B (n := n) (q := q) (by rw [h1]; decide)
          have h6 := ih _ _ _ _ _ (nx_ub B hq) h4
          have h7 := h6.2 (by decide)
          have h8 := h6.1
          simp only [List.length_append, List.length_cons, List.length_nil]
          omega
      · cases h3
      · have h6 := ih _ _ _ _ _ hq h3
        exact ⟨h6.1, fun _ => h6.2 (by decide)⟩
    by_cases l3 : lev = 3
    · subst l3
      rcases ps_3 h with ⟨e, h1, h2⟩ | ⟨q1, c1, h1, ⟨h2, h3⟩ | ⟨h2, h3⟩⟩
      · cases h2
      · have h4 := ih _ _ _ _ _ hq h1
        rcases pb_inv h3 with ⟨e, h5, h6⟩ | ⟨q2, c2, h5, h6⟩
        · cases h6
        · cases h6
          have hx := nx_lt B (n := n) (q := q1) (by rcases h2 with e | e <;> rw [e] <;> decide)
          have h7 := ih _ _ _ _ _ (nx_ub B h4.1.2) h5
          have h8 := h7.2 (by decide)
          simp only [List.length_append, List.length_cons, List.length_nil]
          omega
      · cases h3
        have h4 := ih _ _ _ _ _ hq h1
        exact ⟨h4.1, fun _ => h4.2 (by decide)⟩
    by_cases l6 : lev = 6
    · subst l6
      rcases ps_6 h with ⟨h1, h2⟩ | ⟨h0, h1, h2⟩ | ⟨h0, h0', h1, ⟨e, h2, h3⟩ | ⟨q1, c1, h2, ⟨h3, h4⟩ | ⟨h3, h4⟩⟩⟩ | ⟨h0, h0', h1, h2⟩
      · cases h2
        have hx := nx_lt B (n := n) (q := q) (tk_ne h1)
        have := nx_ub B hq
        simp only [List.length_cons, List.length_nil]
        omega
      · rcases pb_inv h2 with ⟨e, h5, h6⟩ | ⟨q2, c2, h5, h6⟩
        · cases h6
        · cases h6
          have hx := nx_lt B (n := n) (q := q) (by rw [h1.1]; decide)
          have h7 := ih _ _ _ _ _ (nx_ub B hq) h5
          simp only [List.length_append, List.length_cons, List.length_nil]
          omega
      · cases h3
      · cases h4
        have hx := nx_lt B (n := n) (q := q) (by rw [h1.1]; decide)
        have h7 := ih _ _ _ _ _ (nx_ub B hq) h2
        have hx2 := nx_lt B (n := n) (q := q1) (by rw [h3]; decide)
        have hx3 := nx_ub B h7.1.2
        omega
      · cases h4
      · cases h2
    by_cases l9 : lev < 10
    · have hc : (∃ e, ps_ B n f (lev + 1) o q = some (.inr e) ∧ (Sum.inl (q', c) : (Nat × List Int32) ⊕ Nat) = .inr e) ∨ ∃ q1 c1, ps_ B n f (lev + 1) o q = some (.inl (q1, c1)) ∧ pb_ (ps_ B n f (lev + 10) o q1) (fun q2 c2 => some (.inl (q2, c1 ++ c2))) = some (.inl (q', c)) := by
        by_cases hl : lev = 0 ∨ lev = 1 ∨ lev = 4 ∨ lev = 5
        · exact ps_c hl h
        · exact ps_x l2 l3 l6 hl l9 h
      rcases hc with ⟨e, h1, h2⟩ | ⟨q1, c1, h1, h2⟩
      · cases h2
      · have h4 := ih _ _ _ _ _ hq h1
        rcases pb_inv h2 with ⟨e, h5, h6⟩ | ⟨q2, c2, h5, h6⟩
        · cases h6
        · cases h6
          have h7 := ih _ _ _ _ _ h4.1.2 h5
          simp only [List.length_append]
          refine ⟨by omega, fun h9 => ?_⟩
          have := h4.2 (by omega)
          omega
    · obtain ⟨k, rfl⟩ : ∃ k, lev = k + 10 := ⟨lev - 10, by omega⟩
      rcases ps_l h with ⟨h1, h2⟩ | ⟨h1, h2⟩
      · have hx := nx_lt B (n := n) (q := q) (op_tk h1)
        rcases pb_inv h2 with ⟨e, h5, h6⟩ | ⟨q1, c1, h5, h6⟩
        · cases h6
        · have h7 := ih _ _ _ _ _ (nx_ub B hq) h5
          rcases pb_inv h6 with ⟨e, h8, h9⟩ | ⟨q2, c2, h8, h9⟩
          · cases h9
          · cases h9
            have h10 := ih _ _ _ _ _ h7.1.2 h8
            simp only [List.length_append, List.length_cons, List.length_nil]
            exact ⟨by omega, fun h => by omega⟩
      · cases h2
        exact ⟨⟨by simp, hq⟩, fun h => by omega⟩
theorem ps_tot {B : Nat → Int32} {n : Nat} : ∀ (f lev o q : Nat), (lev ≤ 6 ∨ lev = 10 ∨ lev = 11 ∨ lev = 14 ∨ lev = 15) → q ≤ n → 12 * (n - q) + (if lev < 10 then 9 - lev else 10) ≤ f → ∃ res, ps_ B n f lev o q = some res := by
  intro f
  induction f with
  | zero => intro lev o q hl hq hf; split at hf <;> omega
  | succ f ih =>
    intro lev o q hl hq hf
    have hlen := fun lev o q q' c => ps_len (B := B) (n := n) f lev o q q' c
    have hnx : ∀ q, q ≤ n → ¬ tk_ B n q = -22 → q < nx_ B n q ∧ nx_ B n q ≤ n := fun q h1 h2 => ⟨nx_lt B h2, nx_ub B h1⟩
    by_cases l2 : lev = 2
    · subst l2
      rw [if_pos (by decide)] at hf
      simp only [ps_]
      rw [if_pos trivial]
      split
      · rename_i h1
        split
        · have h2 := hnx q hq (by rw [h1]; decide)
          exact pb_tot (ih 2 _ _ (by omega) h2.2 (by rw [if_pos (by decide)]; omega)) (fun q c _ => ⟨_, rfl⟩)
        · exact ⟨_, rfl⟩
      · exact ih 3 _ _ (by omega) hq (by rw [if_pos (by decide)]; omega)
    by_cases l3 : lev = 3
    · subst l3
      rw [if_pos (by decide)] at hf
      simp only [ps_]
      rw [if_neg (by decide), if_pos trivial]
      refine pb_tot (ih 4 _ _ (by omega) hq (by rw [if_pos (by decide)]; omega)) (fun q1 c1 h1 => ?_)
      have h2 := hlen _ _ _ _ _ hq h1
      split
      · rename_i h3
        have h4 := hnx q1 h2.1.2 (by rcases h3 with e | e <;> rw [e] <;> decide)
        exact pb_tot (ih 4 _ _ (by omega) h4.2 (by rw [if_pos (by decide)]; omega)) (fun q c _ => ⟨_, rfl⟩)
      · exact ⟨_, rfl⟩
    by_cases l6 : lev = 6
    · subst l6
      rw [if_pos (by decide)] at hf
      simp only [ps_]
      rw [if_neg (by decide), if_neg (by decide), if_pos trivial]
      split
      · exact ⟨_, rfl⟩
      · split
        · rename_i h3
          have h4 := hnx q hq (by rw [h3.1]; decide)
          exact pb_tot (ih 6 _ _ (by omega) h4.2 (by rw [if_pos (by decide)]; omega)) (fun q c _ => ⟨_, rfl⟩)
        · split
          · rename_i h3
            have h4 := hnx q hq (by rw [h3.1]; decide)
            refine pb_tot (ih 0 _ _ (by omega) h4.2 (by rw [if_pos (by decide)]; omega)) (fun q1 c _ => ?_)
            split
            · exact ⟨_, rfl⟩
            · exact ⟨_, rfl⟩
          · exact ⟨_, rfl⟩
    by_cases l9 : lev < 10
    · rw [if_pos l9] at hf
      simp only [ps_]
      rw [if_neg l2, if_neg l3, if_neg l6, if_pos l9]
      refine pb_tot (ih (lev + 1) _ _ (by omega) hq (by rw [if_pos (by omega)]; omega)) (fun q1 c1 h1 => ?_)
      have h2 := hlen _ _ _ _ _ hq h1
      have h3 := h2.2 (by omega)
      exact pb_tot (ih (lev + 10) _ _ (by omega) h2.1.2 (by rw [if_neg (by omega)]; omega)) (fun q c _ => ⟨_, rfl⟩)
    · rw [if_neg l9] at hf
      obtain ⟨k, rfl⟩ : ∃ k, lev = k + 10 := ⟨lev - 10, by omega⟩
      simp only [ps_]
      rw [if_neg l2, if_neg l3, if_neg l6, if_neg l9, show k + 10 - 10 = k by omega, show k + 10 - 9 = k + 1 by omega]
      split
      · rename_i h1
        have h4 := hnx q hq (op_tk h1)
        refine pb_tot (ih (k + 1) _ _ (by omega) h4.2 (by rw [if_pos (by omega)]; omega)) (fun q1 c1 h5 => ?_)
        have h2 := hlen _ _ _ _ _ h4.2 h5
        have h3 := h2.2 (by omega)
        exact pb_tot (ih (k + 10) _ _ (by omega) h2.1.2 (by rw [if_neg (by omega)]; omega)) (fun q c _ => ⟨_, rfl⟩)
      · exact ⟨_, rfl⟩

