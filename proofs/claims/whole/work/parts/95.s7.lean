/-! ===== calls that change the state: set ===== -/
def nx_set (A : sA) (j l y : Nat) : sA := match j with
  | 0 => ((A.1.1, A.1.2.1, up_ A.1.2.2.1 l y, A.1.2.2.2), A.2)
  | 1 => ((A.1.1, A.1.2.1, A.1.2.2.1, up_ A.1.2.2.2 l y), A.2)
  | 2 => (A.1, (A.2.1.1, up_ A.2.1.2.1 l y, A.2.1.2.2.1, A.2.1.2.2.2), A.2.2)
  | 3 => (A.1, (A.2.1.1, A.2.1.2.1, up_ A.2.1.2.2.1 l y, A.2.1.2.2.2), A.2.2)
  | _ => (A.1, (A.2.1.1, A.2.1.2.1, A.2.1.2.2.1, up_ A.2.1.2.2.2 l y), A.2.2)
def ow_set (A : sA) (j l : Nat) : Nat := match j with
  | 0 => A.1.2.2.1 l
  | 1 => A.1.2.2.2 l
  | 2 => A.2.1.2.1 l
  | 3 => A.2.1.2.2.1 l
  | _ => A.2.1.2.2.2 l
def vy_ (A : sA) (j l : Nat) (v : Int32) : Option Nat := match j with
  | 0 => ix_ 10 v
  | 1 => ix_ (2 ^ l) v
  | 2 => ix_ (A.2.1.2.2.1 l + 1) v
  | 3 => (if v < nI (A.2.1.2.1 l) then none else ix_ 6 v)
  | _ => ag_ v
def sq_ (A : sA) (w o v : Int32) : Option (Nat × Nat × Nat) := match ix_ 5 w with
  | none => none
  | some j => match ix_ (if j < 2 then A.1.1 else A.2.1.1) o with
    | none => none
    | some l => match vy_ A j l v with
      | none => none
      | some y => some (j, l, y)
def sz_ : Option (Nat × Nat × Nat) → Int32
  | none => 0
  | some _ => 1
def an_set (A : sA) (w o v : Int32) : Int32 × sA := match sq_ A w o v with
  | none => (-2, A)
  | some q => (nI (ow_set A q.1 q.2.1), nx_set A q.1 q.2.1 q.2.2)
theorem SI_T {A : sA} (h : SI A) {T' : sp_T} (h1 : T'.1 = A.1.1) (h2 : T'.2.1 = A.1.2.1) : SI (T', A.2) := by
  refine ⟨fun b l hb hl => ?_, ?_⟩
  · show l < T'.1
    rw [h1]
    exact h.1 b l hb hl
  · show iK T' A.2.2.2.1.1 A.2.2.2.2.2.2
    have h3 := h.2
    cases hm : A.2.2.2.2.2.2 with
    | none => trivial
    | some m =>
      rw [hm] at h3
      obtain ⟨a1, a2, a3⟩ := h3
      exact ⟨by rw [h1]; exact a1, fun l hl => by rw [h2]; exact a2 l hl, a3⟩
theorem SI_set {A : sA} (h : SI A) : ∀ j l y, SI (nx_set A j l y)
  | 0, _, _ => SI_T h rfl rfl
  | 1, _, _ => SI_T h rfl rfl
  | 2, _, _ => h
  | 3, _, _ => h
  | _ + 4, _, _ => h
theorem in_0b {b : Nat} (hb : b + 1 < 2 ^ 31) (x : Int32) : f_Mo_in x.toInt64 0 (nI b).toInt64 = iz_ (ix_ (b + 1) x) := by
  rw [i0_, ← show nI (b + 1) - 1 = nI b from nI_pred b]
  exact in_ix hb x
theorem in_a5 {a : Nat} (ha : a < 2 ^ 31) (x : Int32) : f_Mo_in x.toInt64 (nI a).toInt64 5 = iz_ (if x < nI a then none else ix_ 6 x) := by
  rw [show (5 : Int64) = (nI 5).toInt64 by decide, in_be ha (by decide)]
  by_cases h : x < nI a
  · rw [if_pos h, if_pos (Or.inl h)]; rfl
  · rw [if_neg h]
    cases hx : ix_ 6 x with
    | none =>
      rcases g1_n (n := 5) (by decide) hx with h2 | h2
      · exact absurd (Int32.lt_of_lt_of_le h2 (nI_pos' ha)) h
      · exact if_pos (Or.inr h2)
    | some y =>
      obtain ⟨hy, rfl⟩ := ix_some (by decide) hx
      exact if_neg (fun q => q.elim h (fun q => absurd q (Int32.not_lt.mpr (nI_le (b := 5) (by omega) (by decide)))))
theorem CI_set0 {dy : List mm_Sh} {A : sA} {g g' : Nat → Nat → Int32} (hI : CI dy (nr_ g) A) {l y : Nat} (hy : y ≤ 9) (e25 : g' 25 2 = 0) (e0 : g' 4 l = nI y) (hF : ∀ a j, ¬ ((a = 4 ∧ j = l) ∨ (a = 25 ∧ j = 2)) → g' a j = g a j) : CI dy (nr_ g') ((A.1.1, A.1.2.1, up_ A.1.2.2.1 l y, A.1.2.2.2), A.2) := by
  obtain ⟨hL, hK, hPl, hX, hB, hS, hIm, hFd, hW⟩ := hI
  have hP : ∀ a j, ¬ ((a = 4 ∧ j = l) ∨ (a = 25 ∧ j = 2)) → nr_ g' a j = nr_ g a j := fun a j h => nr_cong (hF a j h)
  refine ⟨⟨by rw [hP 2 0 (by omega)]; exact hL.1, hL.2.1, fun k hk => ?_, fun j hj => by rw [hP 12 j (by omega)]; exact hL.2.2.2 j hj⟩, rl_C_fr hK (fun a j h => hP a j (by omega)), cP_fr hPl (fun a j h => hP a j (by omega)), cX_fr hX (fun a j h => hP a j (by omega)), cB_fr hB (fun a j h => hP a j (by omega)), cS_fr hS (fun a j h => hP a j (by omega)), cI_fr hIm (fun a j h => hP a j (by omega)), Or.inl (by rw [nr_eq g' rfl]; exact e25), wf_P hW (fun a j h => hP a j (by omega))⟩
  by_cases e : k = l
  · subst e
    obtain ⟨a1, a2, a3, a4, a5, a6⟩ := hL.2.2.1 k hk
    show _ ∧ _ ∧ _ = nI (up_ A.1.2.2.1 k y k) ∧ up_ A.1.2.2.1 k y k ≤ 9 ∧ _ ∧ _
    rw [up_at, hP 3 k (by omega), hP 5 k (by omega), nr_eq g' rfl]
    exact ⟨a1, a2, e0, hy, a5, a6⟩
  · skip
    obtain ⟨a1, a2, a3, a4, a5, a6⟩ := hL.2.2.1 k hk
    show _ ∧ _ ∧ _ = nI (up_ A.1.2.2.1 l y k) ∧ up_ A.1.2.2.1 l y k ≤ 9 ∧ _ ∧ _
    rw [up_no e, hP 3 k (by omega), hP 4 k (by omega), hP 5 k (by omega)]
    exact ⟨a1, a2, a3, a4, a5, a6⟩
theorem CI_set1 {dy : List mm_Sh} {A : sA} {g g' : Nat → Nat → Int32} (hI : CI dy (nr_ g) A) {l y : Nat} (hy : y < 2 ^ l) (e25 : g' 25 2 = 0) (e0 : g' 5 l = nI y) (hF : ∀ a j, ¬ ((a = 5 ∧ j = l) ∨ (a = 25 ∧ j = 2)) → g' a j = g a j) : CI dy (nr_ g') ((A.1.1, A.1.2.1, A.1.2.2.1, up_ A.1.2.2.2 l y), A.2) := by
  obtain ⟨hL, hK, hPl, hX, hB, hS, hIm, hFd, hW⟩ := hI
  have hP : ∀ a j, ¬ ((a = 5 ∧ j = l) ∨ (a = 25 ∧ j = 2)) → nr_ g' a j = nr_ g a j := fun a j h => nr_cong (hF a j h)
  refine ⟨⟨by rw [hP 2 0 (by omega)]; exact hL.1, hL.2.1, fun k hk => ?_, fun j hj => by rw [hP 12 j (by omega)]; exact hL.2.2.2 j hj⟩, rl_C_fr hK (fun a j h => hP a j (by omega)), cP_fr hPl (fun a j h => hP a j (by omega)), cX_fr hX (fun a j h => hP a j (by omega)), cB_fr hB (fun a j h => hP a j (by omega)), cS_fr hS (fun a j h => hP a j (by omega)), cI_fr hIm (fun a j h => hP a j (by omega)), Or.inl (by rw [nr_eq g' rfl]; exact e25), wf_P hW (fun a j h => hP a j (by omega))⟩
  by_cases e : k = l
  · subst e
    obtain ⟨a1, a2, a3, a4, a5, a6⟩ := hL.2.2.1 k hk
    show _ ∧ _ ∧ _ ∧ _ ∧ _ = nI (up_ A.1.2.2.2 k y k) ∧ up_ A.1.2.2.2 k y k < 2 ^ k
    rw [up_at, hP 3 k (by omega), hP 4 k (by omega), nr_eq g' rfl]
    exact ⟨a1, a2, a3, a4, e0, hy⟩
  · skip
    obtain ⟨a1, a2, a3, a4, a5, a6⟩ := hL.2.2.1 k hk
    show _ ∧ _ ∧ _ ∧ _ ∧ _ = nI (up_ A.1.2.2.2 l y k) ∧ up_ A.1.2.2.2 l y k < 2 ^ k
    rw [up_no e, hP 3 k (by omega), hP 4 k (by omega), hP 5 k (by omega)]
    exact ⟨a1, a2, a3, a4, a5, a6⟩
theorem CI_set2 {dy : List mm_Sh} {A : sA} {g g' : Nat → Nat → Int32} (hI : CI dy (nr_ g) A) {l y : Nat} (hy : y ≤ A.2.1.2.2.1 l) (e25 : g' 25 2 = 0) (e0 : g' 6 l = nI y) (hF : ∀ a j, ¬ ((a = 6 ∧ j = l) ∨ (a = 25 ∧ j = 2)) → g' a j = g a j) : CI dy (nr_ g') (A.1, (A.2.1.1, up_ A.2.1.2.1 l y, A.2.1.2.2.1, A.2.1.2.2.2), A.2.2) := by
  obtain ⟨hL, hK, hPl, hX, hB, hS, hIm, hFd, hW⟩ := hI
  have hP : ∀ a j, ¬ ((a = 6 ∧ j = l) ∨ (a = 25 ∧ j = 2)) → nr_ g' a j = nr_ g a j := fun a j h => nr_cong (hF a j h)
  refine ⟨rl_L_fr hL (fun a j h => hP a j (by omega)), ⟨by rw [hP 2 1 (by omega)]; exact hK.1, hK.2.1, fun k hk => ?_⟩, cP_fr hPl (fun a j h => hP a j (by omega)), cX_fr hX (fun a j h => hP a j (by omega)), cB_fr hB (fun a j h => hP a j (by omega)), cS_fr hS (fun a j h => hP a j (by omega)), cI_fr hIm (fun a j h => hP a j (by omega)), Or.inl (by rw [nr_eq g' rfl]; exact e25), wf_P hW (fun a j h => hP a j (by omega))⟩
  by_cases e : k = l
  · subst e
    obtain ⟨a1, a2, a3, a4, a5⟩ := hK.2.2 k hk
    show _ = nI (up_ A.2.1.2.1 k y k) ∧ _ ∧ up_ A.2.1.2.1 k y k ≤ _ ∧ _ ∧ _
    rw [up_at, hP 7 k (by omega), hP 8 k (by omega), nr_eq g' rfl]
    exact ⟨e0, a2, hy, a4, a5⟩
  · skip
    obtain ⟨a1, a2, a3, a4, a5⟩ := hK.2.2 k hk
    show _ = nI (up_ A.2.1.2.1 l y k) ∧ _ ∧ up_ A.2.1.2.1 l y k ≤ _ ∧ _ ∧ _
    rw [up_no e, hP 6 k (by omega), hP 7 k (by omega), hP 8 k (by omega)]
    exact ⟨a1, a2, a3, a4, a5⟩
theorem CI_set3 {dy : List mm_Sh} {A : sA} {g g' : Nat → Nat → Int32} (hI : CI dy (nr_ g) A) {l y : Nat} (hy : A.2.1.2.1 l ≤ y ∧ y ≤ 5) (e25 : g' 25 2 = 0) (e0 : g' 7 l = nI y) (hF : ∀ a j, ¬ ((a = 7 ∧ j = l) ∨ (a = 25 ∧ j = 2)) → g' a j = g a j) : CI dy (nr_ g') (A.1, (A.2.1.1, A.2.1.2.1, up_ A.2.1.2.2.1 l y, A.2.1.2.2.2), A.2.2) := by
  obtain ⟨hL, hK, hPl, hX, hB, hS, hIm, hFd, hW⟩ := hI
  have hP : ∀ a j, ¬ ((a = 7 ∧ j = l) ∨ (a = 25 ∧ j = 2)) → nr_ g' a j = nr_ g a j := fun a j h => nr_cong (hF a j h)
  refine ⟨rl_L_fr hL (fun a j h => hP a j (by omega)), ⟨by rw [hP 2 1 (by omega)]; exact hK.1, hK.2.1, fun k hk => ?_⟩, cP_fr hPl (fun a j h => hP a j (by omega)), cX_fr hX (fun a j h => hP a j (by omega)), cB_fr hB (fun a j h => hP a j (by omega)), cS_fr hS (fun a j h => hP a j (by omega)), cI_fr hIm (fun a j h => hP a j (by omega)), Or.inl (by rw [nr_eq g' rfl]; exact e25), wf_P hW (fun a j h => hP a j (by omega))⟩
  by_cases e : k = l
  · subst e
    obtain ⟨a1, a2, a3, a4, a5⟩ := hK.2.2 k hk
    show _ ∧ _ = nI (up_ A.2.1.2.2.1 k y k) ∧ _ ≤ up_ A.2.1.2.2.1 k y k ∧ up_ A.2.1.2.2.1 k y k ≤ 5 ∧ _
    rw [up_at, hP 6 k (by omega), hP 8 k (by omega), nr_eq g' rfl]
    exact ⟨a1, e0, hy.1, hy.2, a5⟩
  · skip
    obtain ⟨a1, a2, a3, a4, a5⟩ := hK.2.2 k hk
    show _ ∧ _ = nI (up_ A.2.1.2.2.1 l y k) ∧ _ ≤ up_ A.2.1.2.2.1 l y k ∧ up_ A.2.1.2.2.1 l y k ≤ 5 ∧ _
    rw [up_no e, hP 6 k (by omega), hP 7 k (by omega), hP 8 k (by omega)]
    exact ⟨a1, a2, a3, a4, a5⟩
theorem CI_set4 {dy : List mm_Sh} {A : sA} {g g' : Nat → Nat → Int32} (hI : CI dy (nr_ g) A) {l y : Nat} (hy : y < 15) (e25 : g' 25 2 = 0) (e0 : g' 8 l = nI y) (hF : ∀ a j, ¬ ((a = 8 ∧ j = l) ∨ (a = 25 ∧ j = 2)) → g' a j = g a j) : CI dy (nr_ g') (A.1, (A.2.1.1, A.2.1.2.1, A.2.1.2.2.1, up_ A.2.1.2.2.2 l y), A.2.2) := by
  obtain ⟨hL, hK, hPl, hX, hB, hS, hIm, hFd, hW⟩ := hI
  have hP : ∀ a j, ¬ ((a = 8 ∧ j = l) ∨ (a = 25 ∧ j = 2)) → nr_ g' a j = nr_ g a j := fun a j h => nr_cong (hF a j h)
  refine ⟨rl_L_fr hL (fun a j h => hP a j (by omega)), ⟨by rw [hP 2 1 (by omega)]; exact hK.1, hK.2.1, fun k hk => ?_⟩, cP_fr hPl (fun a j h => hP a j (by omega)), cX_fr hX (fun a j h => hP a j (by omega)), cB_fr hB (fun a j h => hP a j (by omega)), cS_fr hS (fun a j h => hP a j (by omega)), cI_fr hIm (fun a j h => hP a j (by omega)), Or.inl (by rw [nr_eq g' rfl]; exact e25), wf_P hW (fun a j h => hP a j (by omega))⟩
  by_cases e : k = l
  · subst e
    obtain ⟨a1, a2, a3, a4, a5⟩ := hK.2.2 k hk
    show _ ∧ _ ∧ _ ∧ _ ∧ _ = nI (up_ A.2.1.2.2.2 k y k)
    rw [up_at, hP 6 k (by omega), hP 7 k (by omega), nr_eq g' rfl]
    exact ⟨a1, a2, a3, a4, e0⟩
  · skip
    obtain ⟨a1, a2, a3, a4, a5⟩ := hK.2.2 k hk
    show _ ∧ _ ∧ _ ∧ _ ∧ _ = nI (up_ A.2.1.2.2.2 l y k)
    rw [up_no e, hP 6 k (by omega), hP 7 k (by omega), hP 8 k (by omega)]
    exact ⟨a1, a2, a3, a4, a5⟩
theorem MI_set0 {dy : List mm_Sh} {A : sA} {g g' : Nat → Nat → Int32} (hI : MI (nr_ g) A) {l y : Nat} (hy : y ≤ 9) (e0 : g' 57 l = nI y) (hF : ∀ a j, ¬ ((a = 57 ∧ j = l)) → g' a j = g a j) : MI (nr_ g') ((A.1.1, A.1.2.1, up_ A.1.2.2.1 l y, A.1.2.2.2), A.2) := by
  obtain ⟨hL, hK, hPl, hX, hB, hS, hIm⟩ := hI
  have hP : ∀ a j, ¬ ((a = 57 ∧ j = l)) → nr_ g' a j = nr_ g a j := fun a j h => nr_cong (hF a j h)
  refine ⟨⟨by rw [hP 52 10 (by omega)]; exact hL.1, hL.2.1, fun k hk => ?_⟩, rl_CM_fr hK (fun a j h => hP a j (by omega)), dP_fr hPl (fun j => hP 62 j (by omega)), dX_fr hX (fun a j h => hP a j (by omega)), dB_fr hB (fun a j h => hP a j (by omega)), dS_fr hS (fun a j h => hP a j (by omega)), dI_fr hIm (fun a j h => hP a j (by omega))⟩
  by_cases e : k = l
  · subst e
    obtain ⟨a1, a2, a3, a4, a5, a6⟩ := hL.2.2 k hk
    show _ ∧ _ ∧ _ = nI (up_ A.1.2.2.1 k y k) ∧ up_ A.1.2.2.1 k y k ≤ 9 ∧ _ ∧ _
    rw [up_at, hP 56 k (by omega), hP 58 k (by omega), nr_eq g' rfl]
    exact ⟨a1, a2, e0, hy, a5, a6⟩
  · skip
    obtain ⟨a1, a2, a3, a4, a5, a6⟩ := hL.2.2 k hk
    show _ ∧ _ ∧ _ = nI (up_ A.1.2.2.1 l y k) ∧ up_ A.1.2.2.1 l y k ≤ 9 ∧ _ ∧ _
    rw [up_no e, hP 56 k (by omega), hP 57 k (by omega), hP 58 k (by omega)]
    exact ⟨a1, a2, a3, a4, a5, a6⟩
theorem MI_set1 {dy : List mm_Sh} {A : sA} {g g' : Nat → Nat → Int32} (hI : MI (nr_ g) A) {l y : Nat} (hy : y < 2 ^ l) (e0 : g' 58 l = nI y) (hF : ∀ a j, ¬ ((a = 58 ∧ j = l)) → g' a j = g a j) : MI (nr_ g') ((A.1.1, A.1.2.1, A.1.2.2.1, up_ A.1.2.2.2 l y), A.2) := by
  obtain ⟨hL, hK, hPl, hX, hB, hS, hIm⟩ := hI
  have hP : ∀ a j, ¬ ((a = 58 ∧ j = l)) → nr_ g' a j = nr_ g a j := fun a j h => nr_cong (hF a j h)
  refine ⟨⟨by rw [hP 52 10 (by omega)]; exact hL.1, hL.2.1, fun k hk => ?_⟩, rl_CM_fr hK (fun a j h => hP a j (by omega)), dP_fr hPl (fun j => hP 62 j (by omega)), dX_fr hX (fun a j h => hP a j (by omega)), dB_fr hB (fun a j h => hP a j (by omega)), dS_fr hS (fun a j h => hP a j (by omega)), dI_fr hIm (fun a j h => hP a j (by omega))⟩
  by_cases e : k = l
  · subst e
    obtain ⟨a1, a2, a3, a4, a5, a6⟩ := hL.2.2 k hk
    show _ ∧ _ ∧ _ ∧ _ ∧ _ = nI (up_ A.1.2.2.2 k y k) ∧ up_ A.1.2.2.2 k y k < 2 ^ k
    rw [up_at, hP 56 k (by omega), hP 57 k (by omega), nr_eq g' rfl]
    exact ⟨a1, a2, a3, a4, e0, hy⟩
  · skip
    obtain ⟨a1, a2, a3, a4, a5, a6⟩ := hL.2.2 k hk
    show _ ∧ _ ∧ _ ∧ _ ∧ _ = nI (up_ A.1.2.2.2 l y k) ∧ up_ A.1.2.2.2 l y k < 2 ^ k
    rw [up_no e, hP 56 k (by omega), hP 57 k (by omega), hP 58 k (by omega)]
    exact ⟨a1, a2, a3, a4, a5, a6⟩
theorem MI_set2 {dy : List mm_Sh} {A : sA} {g g' : Nat → Nat → Int32} (hI : MI (nr_ g) A) {l y : Nat} (hy : y ≤ A.2.1.2.2.1 l) (e0 : g' 59 l = nI y) (hF : ∀ a j, ¬ ((a = 59 ∧ j = l)) → g' a j = g a j) : MI (nr_ g') (A.1, (A.2.1.1, up_ A.2.1.2.1 l y, A.2.1.2.2.1, A.2.1.2.2.2), A.2.2) := by
  obtain ⟨hL, hK, hPl, hX, hB, hS, hIm⟩ := hI
  have hP : ∀ a j, ¬ ((a = 59 ∧ j = l)) → nr_ g' a j = nr_ g a j := fun a j h => nr_cong (hF a j h)
  refine ⟨rl_LM_fr hL (fun a j h => hP a j (by omega)), ⟨by rw [hP 52 14 (by omega)]; exact hK.1, hK.2.1, fun k hk => ?_⟩, dP_fr hPl (fun j => hP 62 j (by omega)), dX_fr hX (fun a j h => hP a j (by omega)), dB_fr hB (fun a j h => hP a j (by omega)), dS_fr hS (fun a j h => hP a j (by omega)), dI_fr hIm (fun a j h => hP a j (by omega))⟩
  by_cases e : k = l
  · subst e
    obtain ⟨a1, a2, a3, a4, a5⟩ := hK.2.2 k hk
    show _ = nI (up_ A.2.1.2.1 k y k) ∧ _ ∧ up_ A.2.1.2.1 k y k ≤ _ ∧ _ ∧ _
    rw [up_at, hP 60 k (by omega), hP 61 k (by omega), nr_eq g' rfl]
    exact ⟨e0, a2, hy, a4, a5⟩
  · skip
    obtain ⟨a1, a2, a3, a4, a5⟩ := hK.2.2 k hk
    show _ = nI (up_ A.2.1.2.1 l y k) ∧ _ ∧ up_ A.2.1.2.1 l y k ≤ _ ∧ _ ∧ _
    rw [up_no e, hP 59 k (by omega), hP 60 k (by omega), hP 61 k (by omega)]
    exact ⟨a1, a2, a3, a4, a5⟩
theorem MI_set3 {dy : List mm_Sh} {A : sA} {g g' : Nat → Nat → Int32} (hI : MI (nr_ g) A) {l y : Nat} (hy : A.2.1.2.1 l ≤ y ∧ y ≤ 5) (e0 : g' 60 l = nI y) (hF : ∀ a j, ¬ ((a = 60 ∧ j = l)) → g' a j = g a j) : MI (nr_ g') (A.1, (A.2.1.1, A.2.1.2.1, up_ A.2.1.2.2.1 l y, A.2.1.2.2.2), A.2.2) := by
  obtain ⟨hL, hK, hPl, hX, hB, hS, hIm⟩ := hI
  have hP : ∀ a j, ¬ ((a = 60 ∧ j = l)) → nr_ g' a j = nr_ g a j := fun a j h => nr_cong (hF a j h)
  refine ⟨rl_LM_fr hL (fun a j h => hP a j (by omega)), ⟨by rw [hP 52 14 (by omega)]; exact hK.1, hK.2.1, fun k hk => ?_⟩, dP_fr hPl (fun j => hP 62 j (by omega)), dX_fr hX (fun a j h => hP a j (by omega)), dB_fr hB (fun a j h => hP a j (by omega)), dS_fr hS (fun a j h => hP a j (by omega)), dI_fr hIm (fun a j h => hP a j (by omega))⟩
  by_cases e : k = l
  · subst e
    obtain ⟨a1, a2, a3, a4, a5⟩ := hK.2.2 k hk
    show _ ∧ _ = nI (up_ A.2.1.2.2.1 k y k) ∧ _ ≤ up_ A.2.1.2.2.1 k y k ∧ up_ A.2.1.2.2.1 k y k ≤ 5 ∧ _
    rw [up_at, hP 59 k (by omega), hP 61 k (by omega), nr_eq g' rfl]
    exact ⟨a1, e0, hy.1, hy.2, a5⟩
  · skip
    obtain ⟨a1, a2, a3, a4, a5⟩ := hK.2.2 k hk
    show _ ∧ _ = nI (up_ A.2.1.2.2.1 l y k) ∧ _ ≤ up_ A.2.1.2.2.1 l y k ∧ up_ A.2.1.2.2.1 l y k ≤ 5 ∧ _
    rw [up_no e, hP 59 k (by omega), hP 60 k (by omega), hP 61 k (by omega)]
    exact ⟨a1, a2, a3, a4, a5⟩
theorem MI_set4 {dy : List mm_Sh} {A : sA} {g g' : Nat → Nat → Int32} (hI : MI (nr_ g) A) {l y : Nat} (hy : y < 15) (e0 : g' 61 l = nI y) (hF : ∀ a j, ¬ ((a = 61 ∧ j = l)) → g' a j = g a j) : MI (nr_ g') (A.1, (A.2.1.1, A.2.1.2.1, A.2.1.2.2.1, up_ A.2.1.2.2.2 l y), A.2.2) := by
  obtain ⟨hL, hK, hPl, hX, hB, hS, hIm⟩ := hI
  have hP : ∀ a j, ¬ ((a = 61 ∧ j = l)) → nr_ g' a j = nr_ g a j := fun a j h => nr_cong (hF a j h)
  refine ⟨rl_LM_fr hL (fun a j h => hP a j (by omega)), ⟨by rw [hP 52 14 (by omega)]; exact hK.1, hK.2.1, fun k hk => ?_⟩, dP_fr hPl (fun j => hP 62 j (by omega)), dX_fr hX (fun a j h => hP a j (by omega)), dB_fr hB (fun a j h => hP a j (by omega)), dS_fr hS (fun a j h => hP a j (by omega)), dI_fr hIm (fun a j h => hP a j (by omega))⟩
  by_cases e : k = l
  · subst e
    obtain ⟨a1, a2, a3, a4, a5⟩ := hK.2.2 k hk
    show _ ∧ _ ∧ _ ∧ _ ∧ _ = nI (up_ A.2.1.2.2.2 k y k)
    rw [up_at, hP 59 k (by omega), hP 60 k (by omega), nr_eq g' rfl]
    exact ⟨a1, a2, a3, a4, e0⟩
  · skip
    obtain ⟨a1, a2, a3, a4, a5⟩ := hK.2.2 k hk
    show _ ∧ _ ∧ _ ∧ _ ∧ _ = nI (up_ A.2.1.2.2.2 l y k)
    rw [up_no e, hP 59 k (by omega), hP 60 k (by omega), hP 61 k (by omega)]
    exact ⟨a1, a2, a3, a4, a5⟩
theorem ct_Sc_maySet (dy : List mm_Sh) (g : Nat → Nat → Int32) (r : (Nat → Nat → Int64) × Nat × (Nat → Int32)) {A : sA} (hI : CI dy (nr_ g) A) (w o v : Int32) : mm_Ct 4 M_Sc_maySet [.ref 0, .int w, .int o, .int v] (hp_SH ++ dy, g, r) 0 0 (fun u h' => u = some (.int (sz_ (sq_ A w o v))) ∧ h' = (hp_SH ++ dy, g, r)) := by
  have hL := hI.1
  have hK := hI.2.1
  have h4 := hL.2.1
  have h6 := hK.2.1
  have e20 : g 2 0 = nI A.1.1 := by rw [← nr_eq g (k := 2) (j := 0) rfl]; exact hL.1
  have e21 : g 2 1 = nI A.2.1.1 := by rw [← nr_eq g (k := 2) (j := 1) rfl]; exact hK.1
  refine mm_start pl_Sc (Nat.le_of_ble_eq_true rfl) ?_
  cases hx : ix_ 5 w with
  | none =>
    rw [show sq_ A w o v = none by unfold sq_; rw [hx]]
    have ho : w.toInt < 0 ∨ 4 < w.toInt := by rcases ix_out (by decide) hx with h | h; exact Or.inl h; exact Or.inr (by omega)
    refine mm_B ok_Sc_maySet 0 5 (10, [some (.ref 0), some (.int w), some (.int o), some (.int v), some (.ref 2)], [.int w], (hp_SH ++ dy, g, r)) [] rfl trivial ?_
    refine mm_sw (tgt := 167) (mm_at ok_Sc_maySet (i := 5) rfl).1 (by exact Or.inl ⟨ho, by decide⟩) ?_
    refine mm_B ok_Sc_maySet 73 1 (168, [some (.ref 0), some (.int w), some (.int o), some (.int v), some (.ref 2)], [.int 0], (hp_SH ++ dy, g, r)) [] rfl trivial ?_
    exact mm_rz rfl (mm_at ok_Sc_maySet (i := 74) rfl).1 ⟨Nat.le_refl _, Nat.le_refl _⟩ (Or.inl rfl) (⟨rfl, rfl⟩)
  | some j =>
    obtain ⟨hj, rfl⟩ := ix_some (by decide) hx
    rcases (show j = 0 ∨ j = 1 ∨ j = 2 ∨ j = 3 ∨ j = 4 by omega) with rfl | rfl | rfl | rfl | rfl
    · cases hy : ix_ A.1.1 o with
      | none =>
        rw [show sq_ A (nI 0) o v = none by unfold sq_; rw [hx]; show (match ix_ A.1.1 o with | none => _ | some l => _) = _; rw [hy]]
        refine mm_B ok_Sc_maySet 0 5 (10, [some (.ref 0), some (.int (nI 0)), some (.int o), some (.int v), some (.ref 2)], [.int (nI 0)], (hp_SH ++ dy, g, r)) [] rfl trivial ?_
        refine mm_sw (tgt := 44) (mm_at ok_Sc_maySet (i := 5) rfl).1 (by exact Or.inr ⟨by decide, _, rfl, by decide⟩) ?_
        refine mm_B ok_Sc_maySet 6 2 (46, [some (.ref 0), some (.int (nI 0)), some (.int o), some (.int v), some (.ref 2)], [.int o, .ref 0], (hp_SH ++ dy, g, r)) [] rfl trivial ?_
        refine mm_cV (as := [.int o]) (st := []) (q := 0) cw_Sc_isLesson lk_Sc_102 in_Sc_isLesson sl_Sc_isLesson rfl rfl (mm_at ok_Sc_maySet (i := 8) rfl).1 (ct_Sc_isLesson dy g r o) (by decide) ⟨by omega, by omega⟩ (Nat.le_of_ble_eq_true rfl) (mm_vs_b (b := 77) rfl (hp_len dy)) (fun v h' hqq => ?_)
        obtain ⟨rfl, hqe⟩ := hqq; rw [hqe]
        rw [lx_ e20 o, hy]
        refine mm_I ok_Sc_maySet 9 0 49 [some (.ref 0), some (.int (nI 0)), some (.int o), some (.int v), some (.ref 2)] [.int (iz_ none)] (hp_SH ++ dy, g, r) [] rfl trivial rfl rfl (fun _ => ?_) (fun q => False.elim (q rfl))
        refine mm_B ok_Sc_maySet 15 1 (64, [some (.ref 0), some (.int (nI 0)), some (.int o), some (.int v), some (.ref 2)], [.int 0], (hp_SH ++ dy, g, r)) [] rfl trivial ?_
        exact mm_rz rfl (mm_at ok_Sc_maySet (i := 16) rfl).1 ⟨Nat.le_refl _, Nat.le_refl _⟩ (Or.inl rfl) (⟨rfl, rfl⟩)
      | some l =>
        obtain ⟨hl, rfl⟩ := ix_some (by omega) hy
        have h2l : 2 ^ l ≤ 16 := p2_16 (show l ≤ 4 by omega)
        have hs : sq_ A (nI 0) (nI l) v = (match ix_ 10 v with | none => none | some y => some (0, l, y)) := by unfold sq_; rw [hx]; show (match ix_ A.1.1 (nI l) with | none => _ | some l => _) = _; rw [hy]; rfl
        rw [hs]
        clear hs
        refine mm_B ok_Sc_maySet 0 5 (10, [some (.ref 0), some (.int (nI 0)), some (.int (nI l)), some (.int v), some (.ref 2)], [.int (nI 0)], (hp_SH ++ dy, g, r)) [] rfl trivial ?_
        refine mm_sw (tgt := 44) (mm_at ok_Sc_maySet (i := 5) rfl).1 (by exact Or.inr ⟨by decide, _, rfl, by decide⟩) ?_
        refine mm_B ok_Sc_maySet 6 2 (46, [some (.ref 0), some (.int (nI 0)), some (.int (nI l)), some (.int v), some (.ref 2)], [.int (nI l), .ref 0], (hp_SH ++ dy, g, r)) [] rfl trivial ?_
        refine mm_cV (as := [.int (nI l)]) (st := []) (q := 0) cw_Sc_isLesson lk_Sc_102 in_Sc_isLesson sl_Sc_isLesson rfl rfl (mm_at ok_Sc_maySet (i := 8) rfl).1 (ct_Sc_isLesson dy g r (nI l)) (by decide) ⟨by omega, by omega⟩ (Nat.le_of_ble_eq_true rfl) (mm_vs_b (b := 77) rfl (hp_len dy)) (fun v h' hqq => ?_)
        obtain ⟨rfl, hqe⟩ := hqq; rw [hqe]
        rw [lx_ e20 (nI l), hy]
        refine mm_I ok_Sc_maySet 9 0 49 [some (.ref 0), some (.int (nI 0)), some (.int (nI l)), some (.int v), some (.ref 2)] [.int (iz_ (some l))] (hp_SH ++ dy, g, r) [] rfl trivial rfl rfl (fun q => False.elim (one0 q)) (fun _ => ?_)
        refine mm_B ok_Sc_maySet 10 1 (53, [some (.ref 0), some (.int (nI 0)), some (.int (nI l)), some (.int v), some (.ref 2)], [.int v], (hp_SH ++ dy, g, r)) [] rfl trivial ?_
        refine mm_cS (as := [.int v]) (st := []) cw_Sc_isNumber lk_Sc_72 sx_Sc_isNumber (mm_at ok_Sc_maySet (i := 11) rfl).1 (ct_Sc_isNumber (hp_SH ++ dy, g, r) v) (by decide) ⟨by omega, by omega⟩ (Nat.le_of_ble_eq_true rfl) (mm_vs_b (b := 77) rfl (hp_len dy)) (fun v h' hqq => ?_)
        obtain ⟨rfl, hqe⟩ := hqq; rw [hqe]
        rw [nx_n v]
        cases hv : ix_ 10 v with
        | none =>
          refine mm_I ok_Sc_maySet 12 0 56 [some (.ref 0), some (.int (nI 0)), some (.int (nI l)), some (.int v), some (.ref 2)] [.int (iz_ none)] (hp_SH ++ dy, g, r) [] rfl trivial rfl rfl (fun _ => ?_) (fun q => False.elim (q rfl))
          refine mm_B ok_Sc_maySet 15 1 (64, [some (.ref 0), some (.int (nI 0)), some (.int (nI l)), some (.int v), some (.ref 2)], [.int 0], (hp_SH ++ dy, g, r)) [] rfl trivial ?_
          exact mm_rz rfl (mm_at ok_Sc_maySet (i := 16) rfl).1 ⟨Nat.le_refl _, Nat.le_refl _⟩ (Or.inl rfl) (⟨rfl, rfl⟩)
        | some y =>
          refine mm_I ok_Sc_maySet 12 0 56 [some (.ref 0), some (.int (nI 0)), some (.int (nI l)), some (.int v), some (.ref 2)] [.int (iz_ (some y))] (hp_SH ++ dy, g, r) [] rfl trivial rfl rfl (fun q => False.elim (one0 q)) (fun _ => ?_)
          refine mm_B ok_Sc_maySet 13 2 (64, [some (.ref 0), some (.int (nI 0)), some (.int (nI l)), some (.int v), some (.ref 2)], [.int 1], (hp_SH ++ dy, g, r)) [] rfl trivial ?_
          exact mm_rz rfl (mm_at ok_Sc_maySet (i := 16) rfl).1 ⟨Nat.le_refl _, Nat.le_refl _⟩ (Or.inr rfl) (⟨rfl, rfl⟩)
    · cases hy : ix_ A.1.1 o with
      | none =>
        rw [show sq_ A (nI 1) o v = none by unfold sq_; rw [hx]; show (match ix_ A.1.1 o with | none => _ | some l => _) = _; rw [hy]]
        refine mm_B ok_Sc_maySet 0 5 (10, [some (.ref 0), some (.int (nI 1)), some (.int o), some (.int v), some (.ref 2)], [.int (nI 1)], (hp_SH ++ dy, g, r)) [] rfl trivial ?_
        refine mm_sw (tgt := 65) (mm_at ok_Sc_maySet (i := 5) rfl).1 (by exact Or.inr ⟨by decide, _, rfl, by decide⟩) ?_
        refine mm_B ok_Sc_maySet 17 2 (67, [some (.ref 0), some (.int (nI 1)), some (.int o), some (.int v), some (.ref 2)], [.int o, .ref 0], (hp_SH ++ dy, g, r)) [] rfl trivial ?_
        refine mm_cV (as := [.int o]) (st := []) (q := 0) cw_Sc_isLesson lk_Sc_102 in_Sc_isLesson sl_Sc_isLesson rfl rfl (mm_at ok_Sc_maySet (i := 19) rfl).1 (ct_Sc_isLesson dy g r o) (by decide) ⟨by omega, by omega⟩ (Nat.le_of_ble_eq_true rfl) (mm_vs_b (b := 77) rfl (hp_len dy)) (fun v h' hqq => ?_)
        obtain ⟨rfl, hqe⟩ := hqq; rw [hqe]
        rw [lx_ e20 o, hy]
        refine mm_I ok_Sc_maySet 20 0 70 [some (.ref 0), some (.int (nI 1)), some (.int o), some (.int v), some (.ref 2)] [.int (iz_ none)] (hp_SH ++ dy, g, r) [] rfl trivial rfl rfl (fun _ => ?_) (fun q => False.elim (q rfl))
        refine mm_B ok_Sc_maySet 27 1 (86, [some (.ref 0), some (.int (nI 1)), some (.int o), some (.int v), some (.ref 2)], [.int 0], (hp_SH ++ dy, g, r)) [] rfl trivial ?_
        exact mm_rz rfl (mm_at ok_Sc_maySet (i := 28) rfl).1 ⟨Nat.le_refl _, Nat.le_refl _⟩ (Or.inl rfl) (⟨rfl, rfl⟩)
      | some l =>
        obtain ⟨hl, rfl⟩ := ix_some (by omega) hy
        have h2l : 2 ^ l ≤ 16 := p2_16 (show l ≤ 4 by omega)
        have hs : sq_ A (nI 1) (nI l) v = (match ix_ (2 ^ l) v with | none => none | some y => some (1, l, y)) := by unfold sq_; rw [hx]; show (match ix_ A.1.1 (nI l) with | none => _ | some l => _) = _; rw [hy]; rfl
        rw [hs]
        clear hs
        refine mm_B ok_Sc_maySet 0 5 (10, [some (.ref 0), some (.int (nI 1)), some (.int (nI l)), some (.int v), some (.ref 2)], [.int (nI 1)], (hp_SH ++ dy, g, r)) [] rfl trivial ?_
        refine mm_sw (tgt := 65) (mm_at ok_Sc_maySet (i := 5) rfl).1 (by exact Or.inr ⟨by decide, _, rfl, by decide⟩) ?_
        refine mm_B ok_Sc_maySet 17 2 (67, [some (.ref 0), some (.int (nI 1)), some (.int (nI l)), some (.int v), some (.ref 2)], [.int (nI l), .ref 0], (hp_SH ++ dy, g, r)) [] rfl trivial ?_
        refine mm_cV (as := [.int (nI l)]) (st := []) (q := 0) cw_Sc_isLesson lk_Sc_102 in_Sc_isLesson sl_Sc_isLesson rfl rfl (mm_at ok_Sc_maySet (i := 19) rfl).1 (ct_Sc_isLesson dy g r (nI l)) (by decide) ⟨by omega, by omega⟩ (Nat.le_of_ble_eq_true rfl) (mm_vs_b (b := 77) rfl (hp_len dy)) (fun v h' hqq => ?_)
        obtain ⟨rfl, hqe⟩ := hqq; rw [hqe]
        rw [lx_ e20 (nI l), hy]
        refine mm_I ok_Sc_maySet 20 0 70 [some (.ref 0), some (.int (nI 1)), some (.int (nI l)), some (.int v), some (.ref 2)] [.int (iz_ (some l))] (hp_SH ++ dy, g, r) [] rfl trivial rfl rfl (fun q => False.elim (one0 q)) (fun _ => ?_)
        refine mm_B ok_Sc_maySet 21 2 (75, [some (.ref 0), some (.int (nI 1)), some (.int (nI l)), some (.int v), some (.ref 2)], [.int (nI l), .int v], (hp_SH ++ dy, g, r)) [] rfl trivial ?_
        refine mm_cS (as := [.int v, .int (nI l)]) (st := []) cw_Sc_areLessons lk_Sc_79 sx_Sc_areLessons (mm_at ok_Sc_maySet (i := 23) rfl).1 (ct_Sc_areLessons (hp_SH ++ dy, g, r) v (nI l)) (by decide) ⟨by omega, by omega⟩ (Nat.le_of_ble_eq_true rfl) (mm_vs_b (b := 77) rfl (hp_len dy)) (fun v h' hqq => ?_)
        obtain ⟨rfl, hqe⟩ := hqq; rw [hqe]
        rw [ar_ok (show l ≤ 4 by omega) v]
        cases hv : ix_ (2 ^ l) v with
        | none =>
          refine mm_I ok_Sc_maySet 24 0 78 [some (.ref 0), some (.int (nI 1)), some (.int (nI l)), some (.int v), some (.ref 2)] [.int (iz_ none)] (hp_SH ++ dy, g, r) [] rfl trivial rfl rfl (fun _ => ?_) (fun q => False.elim (q rfl))
          refine mm_B ok_Sc_maySet 27 1 (86, [some (.ref 0), some (.int (nI 1)), some (.int (nI l)), some (.int v), some (.ref 2)], [.int 0], (hp_SH ++ dy, g, r)) [] rfl trivial ?_
          exact mm_rz rfl (mm_at ok_Sc_maySet (i := 28) rfl).1 ⟨Nat.le_refl _, Nat.le_refl _⟩ (Or.inl rfl) (⟨rfl, rfl⟩)
        | some y =>
          refine mm_I ok_Sc_maySet 24 0 78 [some (.ref 0), some (.int (nI 1)), some (.int (nI l)), some (.int v), some (.ref 2)] [.int (iz_ (some y))] (hp_SH ++ dy, g, r) [] rfl trivial rfl rfl (fun q => False.elim (one0 q)) (fun _ => ?_)
          refine mm_B ok_Sc_maySet 25 2 (86, [some (.ref 0), some (.int (nI 1)), some (.int (nI l)), some (.int v), some (.ref 2)], [.int 1], (hp_SH ++ dy, g, r)) [] rfl trivial ?_
          exact mm_rz rfl (mm_at ok_Sc_maySet (i := 28) rfl).1 ⟨Nat.le_refl _, Nat.le_refl _⟩ (Or.inr rfl) (⟨rfl, rfl⟩)
    · cases hy : ix_ A.2.1.1 o with
      | none =>
        rw [show sq_ A (nI 2) o v = none by unfold sq_; rw [hx]; show (match ix_ A.2.1.1 o with | none => _ | some l => _) = _; rw [hy]]
        refine mm_B ok_Sc_maySet 0 5 (10, [some (.ref 0), some (.int (nI 2)), some (.int o), some (.int v), some (.ref 2)], [.int (nI 2)], (hp_SH ++ dy, g, r)) [] rfl trivial ?_
        refine mm_sw (tgt := 87) (mm_at ok_Sc_maySet (i := 5) rfl).1 (by exact Or.inr ⟨by decide, _, rfl, by decide⟩) ?_
        refine mm_B ok_Sc_maySet 29 2 (89, [some (.ref 0), some (.int (nI 2)), some (.int o), some (.int v), some (.ref 2)], [.int o, .ref 0], (hp_SH ++ dy, g, r)) [] rfl trivial ?_
        refine mm_cV (as := [.int o]) (st := []) (q := 0) cw_Sc_isChild lk_Sc_105 in_Sc_isChild sl_Sc_isChild rfl rfl (mm_at ok_Sc_maySet (i := 31) rfl).1 (ct_Sc_isChild dy g r o) (by decide) ⟨by omega, by omega⟩ (Nat.le_of_ble_eq_true rfl) (mm_vs_b (b := 77) rfl (hp_len dy)) (fun v h' hqq => ?_)
        obtain ⟨rfl, hqe⟩ := hqq; rw [hqe]
        rw [cx_ e21 o, hy]
        refine mm_I ok_Sc_maySet 32 0 92 [some (.ref 0), some (.int (nI 2)), some (.int o), some (.int v), some (.ref 2)] [.int (iz_ none)] (hp_SH ++ dy, g, r) [] rfl trivial rfl rfl (fun _ => ?_) (fun q => False.elim (q rfl))
        refine mm_B ok_Sc_maySet 43 1 (115, [some (.ref 0), some (.int (nI 2)), some (.int o), some (.int v), some (.ref 2)], [.int 0], (hp_SH ++ dy, g, r)) [] rfl trivial ?_
        exact mm_rz rfl (mm_at ok_Sc_maySet (i := 44) rfl).1 ⟨Nat.le_refl _, Nat.le_refl _⟩ (Or.inl rfl) (⟨rfl, rfl⟩)
      | some l =>
        obtain ⟨hl, rfl⟩ := ix_some (by omega) hy
        obtain ⟨k1, k2, k3, k4, k5⟩ := hK.2.2 l hl
        obtain ⟨e6, e7, e8⟩ := tc_f hK hl
        have hs : sq_ A (nI 2) (nI l) v = (match ix_ (A.2.1.2.2.1 l + 1) v with | none => none | some y => some (2, l, y)) := by unfold sq_; rw [hx]; show (match ix_ A.2.1.1 (nI l) with | none => _ | some l => _) = _; rw [hy]; rfl
        rw [hs]
        clear hs
        refine mm_B ok_Sc_maySet 0 5 (10, [some (.ref 0), some (.int (nI 2)), some (.int (nI l)), some (.int v), some (.ref 2)], [.int (nI 2)], (hp_SH ++ dy, g, r)) [] rfl trivial ?_
        refine mm_sw (tgt := 87) (mm_at ok_Sc_maySet (i := 5) rfl).1 (by exact Or.inr ⟨by decide, _, rfl, by decide⟩) ?_
        refine mm_B ok_Sc_maySet 29 2 (89, [some (.ref 0), some (.int (nI 2)), some (.int (nI l)), some (.int v), some (.ref 2)], [.int (nI l), .ref 0], (hp_SH ++ dy, g, r)) [] rfl trivial ?_
        refine mm_cV (as := [.int (nI l)]) (st := []) (q := 0) cw_Sc_isChild lk_Sc_105 in_Sc_isChild sl_Sc_isChild rfl rfl (mm_at ok_Sc_maySet (i := 31) rfl).1 (ct_Sc_isChild dy g r (nI l)) (by decide) ⟨by omega, by omega⟩ (Nat.le_of_ble_eq_true rfl) (mm_vs_b (b := 77) rfl (hp_len dy)) (fun v h' hqq => ?_)
        obtain ⟨rfl, hqe⟩ := hqq; rw [hqe]
        rw [cx_ e21 (nI l), hy]
        refine mm_I ok_Sc_maySet 32 0 92 [some (.ref 0), some (.int (nI 2)), some (.int (nI l)), some (.int v), some (.ref 2)] [.int (iz_ (some l))] (hp_SH ++ dy, g, r) [] rfl trivial rfl rfl (fun q => False.elim (one0 q)) (fun _ => ?_)
        cases hv : ix_ (A.2.1.2.2.1 l + 1) v with
        | none =>
          rcases g1_n (by omega) hv with h | h
          · refine mm_I ok_Sc_maySet 33 1 96 [some (.ref 0), some (.int (nI 2)), some (.int (nI l)), some (.int v), some (.ref 2)] [.int v] (hp_SH ++ dy, g, r) [] rfl trivial rfl rfl (fun _ => ?_) (fun q => False.elim (q h))
            refine mm_B ok_Sc_maySet 43 1 (115, [some (.ref 0), some (.int (nI 2)), some (.int (nI l)), some (.int v), some (.ref 2)], [.int 0], (hp_SH ++ dy, g, r)) [] rfl trivial ?_
            exact mm_rz rfl (mm_at ok_Sc_maySet (i := 44) rfl).1 ⟨Nat.le_refl _, Nat.le_refl _⟩ (Or.inl rfl) (⟨rfl, rfl⟩)
          · refine mm_I ok_Sc_maySet 33 1 96 [some (.ref 0), some (.int (nI 2)), some (.int (nI l)), some (.int v), some (.ref 2)] [.int v] (hp_SH ++ dy, g, r) [] rfl trivial rfl rfl (fun q => False.elim (absurd (Int32.lt_trans h q) (Int32.not_lt.mpr (nI_pos' (by omega))))) (fun _ => ?_)
            refine mm_B ok_Sc_maySet 35 5 (107, [some (.ref 0), some (.int (nI 2)), some (.int (nI l)), some (.int v), some (.ref 2)], [.int (g 7 ((nI l).toNatClampNeg)), .int v], (hp_SH ++ dy, g, r)) [vp_in (nI l) 6] rfl (show vp_in (nI l) 6 from (nI_vi (by omega) (by decide))) ?_
            rw [e7]
            refine mm_I ok_Sc_maySet 40 0 107 [some (.ref 0), some (.int (nI 2)), some (.int (nI l)), some (.int v), some (.ref 2)] [.int (nI (A.2.1.2.2.1 l)), .int v] (hp_SH ++ dy, g, r) [] rfl trivial rfl rfl (fun _ => ?_) (fun q => False.elim (q h))
            refine mm_B ok_Sc_maySet 43 1 (115, [some (.ref 0), some (.int (nI 2)), some (.int (nI l)), some (.int v), some (.ref 2)], [.int 0], (hp_SH ++ dy, g, r)) [] rfl trivial ?_
            exact mm_rz rfl (mm_at ok_Sc_maySet (i := 44) rfl).1 ⟨Nat.le_refl _, Nat.le_refl _⟩ (Or.inl rfl) (⟨rfl, rfl⟩)
        | some y =>
          obtain ⟨hy1, rfl⟩ := ix_some (by omega) hv
          refine mm_I ok_Sc_maySet 33 1 96 [some (.ref 0), some (.int (nI 2)), some (.int (nI l)), some (.int (nI y)), some (.ref 2)] [.int (nI y)] (hp_SH ++ dy, g, r) [] rfl trivial rfl rfl (fun q => False.elim (nI_pos (n := y) (by omega) q)) (fun _ => ?_)
          refine mm_B ok_Sc_maySet 35 5 (107, [some (.ref 0), some (.int (nI 2)), some (.int (nI l)), some (.int (nI y)), some (.ref 2)], [.int (g 7 ((nI l).toNatClampNeg)), .int (nI y)], (hp_SH ++ dy, g, r)) [vp_in (nI l) 6] rfl (show vp_in (nI l) 6 from (nI_vi (by omega) (by decide))) ?_
          rw [e7]
          refine mm_I ok_Sc_maySet 40 0 107 [some (.ref 0), some (.int (nI 2)), some (.int (nI l)), some (.int (nI y)), some (.ref 2)] [.int (nI (A.2.1.2.2.1 l)), .int (nI y)] (hp_SH ++ dy, g, r) [] rfl trivial rfl rfl (fun q => False.elim (absurd q (Int32.not_lt.mpr (nI_le (by omega) (by omega))))) (fun _ => ?_)
          refine mm_B ok_Sc_maySet 41 2 (115, [some (.ref 0), some (.int (nI 2)), some (.int (nI l)), some (.int (nI y)), some (.ref 2)], [.int 1], (hp_SH ++ dy, g, r)) [] rfl trivial ?_
          exact mm_rz rfl (mm_at ok_Sc_maySet (i := 44) rfl).1 ⟨Nat.le_refl _, Nat.le_refl _⟩ (Or.inr rfl) (⟨rfl, rfl⟩)
    · cases hy : ix_ A.2.1.1 o with
      | none =>
        rw [show sq_ A (nI 3) o v = none by unfold sq_; rw [hx]; show (match ix_ A.2.1.1 o with | none => _ | some l => _) = _; rw [hy]]
        refine mm_B ok_Sc_maySet 0 5 (10, [some (.ref 0), some (.int (nI 3)), some (.int o), some (.int v), some (.ref 2)], [.int (nI 3)], (hp_SH ++ dy, g, r)) [] rfl trivial ?_
        refine mm_sw (tgt := 116) (mm_at ok_Sc_maySet (i := 5) rfl).1 (by exact Or.inr ⟨by decide, _, rfl, by decide⟩) ?_
        refine mm_B ok_Sc_maySet 45 2 (118, [some (.ref 0), some (.int (nI 3)), some (.int o), some (.int v), some (.ref 2)], [.int o, .ref 0], (hp_SH ++ dy, g, r)) [] rfl trivial ?_
        refine mm_cV (as := [.int o]) (st := []) (q := 0) cw_Sc_isChild lk_Sc_105 in_Sc_isChild sl_Sc_isChild rfl rfl (mm_at ok_Sc_maySet (i := 47) rfl).1 (ct_Sc_isChild dy g r o) (by decide) ⟨by omega, by omega⟩ (Nat.le_of_ble_eq_true rfl) (mm_vs_b (b := 77) rfl (hp_len dy)) (fun v h' hqq => ?_)
        obtain ⟨rfl, hqe⟩ := hqq; rw [hqe]
        rw [cx_ e21 o, hy]
        refine mm_I ok_Sc_maySet 48 0 121 [some (.ref 0), some (.int (nI 3)), some (.int o), some (.int v), some (.ref 2)] [.int (iz_ none)] (hp_SH ++ dy, g, r) [] rfl trivial rfl rfl (fun _ => ?_) (fun q => False.elim (q rfl))
        refine mm_B ok_Sc_maySet 60 1 (145, [some (.ref 0), some (.int (nI 3)), some (.int o), some (.int v), some (.ref 2)], [.int 0], (hp_SH ++ dy, g, r)) [] rfl trivial ?_
        exact mm_rz rfl (mm_at ok_Sc_maySet (i := 61) rfl).1 ⟨Nat.le_refl _, Nat.le_refl _⟩ (Or.inl rfl) (⟨rfl, rfl⟩)
      | some l =>
        obtain ⟨hl, rfl⟩ := ix_some (by omega) hy
        obtain ⟨k1, k2, k3, k4, k5⟩ := hK.2.2 l hl
        obtain ⟨e6, e7, e8⟩ := tc_f hK hl
        have hs : sq_ A (nI 3) (nI l) v = (match (if v < nI (A.2.1.2.1 l) then none else ix_ 6 v) with | none => none | some y => some (3, l, y)) := by unfold sq_; rw [hx]; show (match ix_ A.2.1.1 (nI l) with | none => _ | some l => _) = _; rw [hy]; rfl
        rw [hs]
        clear hs
        refine mm_B ok_Sc_maySet 0 5 (10, [some (.ref 0), some (.int (nI 3)), some (.int (nI l)), some (.int v), some (.ref 2)], [.int (nI 3)], (hp_SH ++ dy, g, r)) [] rfl trivial ?_
        refine mm_sw (tgt := 116) (mm_at ok_Sc_maySet (i := 5) rfl).1 (by exact Or.inr ⟨by decide, _, rfl, by decide⟩) ?_
        refine mm_B ok_Sc_maySet 45 2 (118, [some (.ref 0), some (.int (nI 3)), some (.int (nI l)), some (.int v), some (.ref 2)], [.int (nI l), .ref 0], (hp_SH ++ dy, g, r)) [] rfl trivial ?_
        refine mm_cV (as := [.int (nI l)]) (st := []) (q := 0) cw_Sc_isChild lk_Sc_105 in_Sc_isChild sl_Sc_isChild rfl rfl (mm_at ok_Sc_maySet (i := 47) rfl).1 (ct_Sc_isChild dy g r (nI l)) (by decide) ⟨by omega, by omega⟩ (Nat.le_of_ble_eq_true rfl) (mm_vs_b (b := 77) rfl (hp_len dy)) (fun v h' hqq => ?_)
        obtain ⟨rfl, hqe⟩ := hqq; rw [hqe]
        rw [cx_ e21 (nI l), hy]
        refine mm_I ok_Sc_maySet 48 0 121 [some (.ref 0), some (.int (nI 3)), some (.int (nI l)), some (.int v), some (.ref 2)] [.int (iz_ (some l))] (hp_SH ++ dy, g, r) [] rfl trivial rfl rfl (fun q => False.elim (one0 q)) (fun _ => ?_)
        refine mm_B ok_Sc_maySet 49 5 (132, [some (.ref 0), some (.int (nI 3)), some (.int (nI l)), some (.int v), some (.ref 2)], [.int (g 6 ((nI l).toNatClampNeg)), .int v], (hp_SH ++ dy, g, r)) [vp_in (nI l) 6] rfl (show vp_in (nI l) 6 from (nI_vi (by omega) (by decide))) ?_
        rw [e6]
        by_cases hn : v < nI (A.2.1.2.1 l)
        · rw [if_pos hn]
          refine mm_I ok_Sc_maySet 54 0 132 [some (.ref 0), some (.int (nI 3)), some (.int (nI l)), some (.int v), some (.ref 2)] [.int (nI (A.2.1.2.1 l)), .int v] (hp_SH ++ dy, g, r) [] rfl trivial rfl rfl (fun _ => ?_) (fun q => False.elim (q hn))
          refine mm_B ok_Sc_maySet 60 1 (145, [some (.ref 0), some (.int (nI 3)), some (.int (nI l)), some (.int v), some (.ref 2)], [.int 0], (hp_SH ++ dy, g, r)) [] rfl trivial ?_
          exact mm_rz rfl (mm_at ok_Sc_maySet (i := 61) rfl).1 ⟨Nat.le_refl _, Nat.le_refl _⟩ (Or.inl rfl) (⟨rfl, rfl⟩)
        · rw [if_neg hn]
          refine mm_I ok_Sc_maySet 54 0 132 [some (.ref 0), some (.int (nI 3)), some (.int (nI l)), some (.int v), some (.ref 2)] [.int (nI (A.2.1.2.1 l)), .int v] (hp_SH ++ dy, g, r) [] rfl trivial rfl rfl (fun q => False.elim (hn q)) (fun _ => ?_)
          cases hv : ix_ 6 v with
          | none =>
            rcases g1_n (n := 5) (by decide) hv with h | h
            · exact absurd (Int32.lt_of_lt_of_le h (nI_pos' (by omega))) hn
            · refine mm_I ok_Sc_maySet 55 2 137 [some (.ref 0), some (.int (nI 3)), some (.int (nI l)), some (.int v), some (.ref 2)] [.int 5, .int v] (hp_SH ++ dy, g, r) [] rfl trivial rfl rfl (fun _ => ?_) (fun q => False.elim (q h))
              refine mm_B ok_Sc_maySet 60 1 (145, [some (.ref 0), some (.int (nI 3)), some (.int (nI l)), some (.int v), some (.ref 2)], [.int 0], (hp_SH ++ dy, g, r)) [] rfl trivial ?_
              exact mm_rz rfl (mm_at ok_Sc_maySet (i := 61) rfl).1 ⟨Nat.le_refl _, Nat.le_refl _⟩ (Or.inl rfl) (⟨rfl, rfl⟩)
          | some y =>
            obtain ⟨hy1, rfl⟩ := ix_some (by omega) hv
            refine mm_I ok_Sc_maySet 55 2 137 [some (.ref 0), some (.int (nI 3)), some (.int (nI l)), some (.int (nI y)), some (.ref 2)] [.int 5, .int (nI y)] (hp_SH ++ dy, g, r) [] rfl trivial rfl rfl (fun q => False.elim (absurd q (Int32.not_lt.mpr (nI_le (b := 5) (by omega) (by omega))))) (fun _ => ?_)
            refine mm_B ok_Sc_maySet 58 2 (145, [some (.ref 0), some (.int (nI 3)), some (.int (nI l)), some (.int (nI y)), some (.ref 2)], [.int 1], (hp_SH ++ dy, g, r)) [] rfl trivial ?_
            exact mm_rz rfl (mm_at ok_Sc_maySet (i := 61) rfl).1 ⟨Nat.le_refl _, Nat.le_refl _⟩ (Or.inr rfl) (⟨rfl, rfl⟩)
    · cases hy : ix_ A.2.1.1 o with
      | none =>
        rw [show sq_ A (nI 4) o v = none by unfold sq_; rw [hx]; show (match ix_ A.2.1.1 o with | none => _ | some l => _) = _; rw [hy]]
        refine mm_B ok_Sc_maySet 0 5 (10, [some (.ref 0), some (.int (nI 4)), some (.int o), some (.int v), some (.ref 2)], [.int (nI 4)], (hp_SH ++ dy, g, r)) [] rfl trivial ?_
        refine mm_sw (tgt := 146) (mm_at ok_Sc_maySet (i := 5) rfl).1 (by exact Or.inr ⟨by decide, _, rfl, by decide⟩) ?_
        refine mm_B ok_Sc_maySet 62 2 (148, [some (.ref 0), some (.int (nI 4)), some (.int o), some (.int v), some (.ref 2)], [.int o, .ref 0], (hp_SH ++ dy, g, r)) [] rfl trivial ?_
        refine mm_cV (as := [.int o]) (st := []) (q := 0) cw_Sc_isChild lk_Sc_105 in_Sc_isChild sl_Sc_isChild rfl rfl (mm_at ok_Sc_maySet (i := 64) rfl).1 (ct_Sc_isChild dy g r o) (by decide) ⟨by omega, by omega⟩ (Nat.le_of_ble_eq_true rfl) (mm_vs_b (b := 77) rfl (hp_len dy)) (fun v h' hqq => ?_)
        obtain ⟨rfl, hqe⟩ := hqq; rw [hqe]
        rw [cx_ e21 o, hy]
        refine mm_I ok_Sc_maySet 65 0 151 [some (.ref 0), some (.int (nI 4)), some (.int o), some (.int v), some (.ref 2)] [.int (iz_ none)] (hp_SH ++ dy, g, r) [] rfl trivial rfl rfl (fun _ => ?_) (fun q => False.elim (q rfl))
        refine mm_B ok_Sc_maySet 71 1 (166, [some (.ref 0), some (.int (nI 4)), some (.int o), some (.int v), some (.ref 2)], [.int 0], (hp_SH ++ dy, g, r)) [] rfl trivial ?_
        exact mm_rz rfl (mm_at ok_Sc_maySet (i := 72) rfl).1 ⟨Nat.le_refl _, Nat.le_refl _⟩ (Or.inl rfl) (⟨rfl, rfl⟩)
      | some l =>
        obtain ⟨hl, rfl⟩ := ix_some (by omega) hy
        obtain ⟨k1, k2, k3, k4, k5⟩ := hK.2.2 l hl
        obtain ⟨e6, e7, e8⟩ := tc_f hK hl
        have hs : sq_ A (nI 4) (nI l) v = (match ag_ v with | none => none | some y => some (4, l, y)) := by unfold sq_; rw [hx]; show (match ix_ A.2.1.1 (nI l) with | none => _ | some l => _) = _; rw [hy]; rfl
        rw [hs]
        clear hs
        refine mm_B ok_Sc_maySet 0 5 (10, [some (.ref 0), some (.int (nI 4)), some (.int (nI l)), some (.int v), some (.ref 2)], [.int (nI 4)], (hp_SH ++ dy, g, r)) [] rfl trivial ?_
        refine mm_sw (tgt := 146) (mm_at ok_Sc_maySet (i := 5) rfl).1 (by exact Or.inr ⟨by decide, _, rfl, by decide⟩) ?_
        refine mm_B ok_Sc_maySet 62 2 (148, [some (.ref 0), some (.int (nI 4)), some (.int (nI l)), some (.int v), some (.ref 2)], [.int (nI l), .ref 0], (hp_SH ++ dy, g, r)) [] rfl trivial ?_
        refine mm_cV (as := [.int (nI l)]) (st := []) (q := 0) cw_Sc_isChild lk_Sc_105 in_Sc_isChild sl_Sc_isChild rfl rfl (mm_at ok_Sc_maySet (i := 64) rfl).1 (ct_Sc_isChild dy g r (nI l)) (by decide) ⟨by omega, by omega⟩ (Nat.le_of_ble_eq_true rfl) (mm_vs_b (b := 77) rfl (hp_len dy)) (fun v h' hqq => ?_)
        obtain ⟨rfl, hqe⟩ := hqq; rw [hqe]
        rw [cx_ e21 (nI l), hy]
        refine mm_I ok_Sc_maySet 65 0 151 [some (.ref 0), some (.int (nI 4)), some (.int (nI l)), some (.int v), some (.ref 2)] [.int (iz_ (some l))] (hp_SH ++ dy, g, r) [] rfl trivial rfl rfl (fun q => False.elim (one0 q)) (fun _ => ?_)
        refine mm_B ok_Sc_maySet 66 1 (155, [some (.ref 0), some (.int (nI 4)), some (.int (nI l)), some (.int v), some (.ref 2)], [.int v], (hp_SH ++ dy, g, r)) [] rfl trivial ?_
        refine mm_cS (as := [.int v]) (st := []) cw_Sc_isAge lk_Sc_280 sx_Sc_isAge (mm_at ok_Sc_maySet (i := 67) rfl).1 (ct_Sc_isAge (hp_SH ++ dy, g, r) v) (by decide) ⟨by omega, by omega⟩ (Nat.le_of_ble_eq_true rfl) (mm_vs_b (b := 77) rfl (hp_len dy)) (fun v h' hqq => ?_)
        obtain ⟨rfl, hqe⟩ := hqq; rw [hqe]
        cases hv : ag_ v with
        | none =>
          rw [ag_none hv]
          refine mm_I ok_Sc_maySet 68 0 158 [some (.ref 0), some (.int (nI 4)), some (.int (nI l)), some (.int v), some (.ref 2)] [.int 0] (hp_SH ++ dy, g, r) [] rfl trivial rfl rfl (fun _ => ?_) (fun q => False.elim (q rfl))
          refine mm_B ok_Sc_maySet 71 1 (166, [some (.ref 0), some (.int (nI 4)), some (.int (nI l)), some (.int v), some (.ref 2)], [.int 0], (hp_SH ++ dy, g, r)) [] rfl trivial ?_
          exact mm_rz rfl (mm_at ok_Sc_maySet (i := 72) rfl).1 ⟨Nat.le_refl _, Nat.le_refl _⟩ (Or.inl rfl) (⟨rfl, rfl⟩)
        | some y =>
          rw [(ag_some hv).2.2]
          refine mm_I ok_Sc_maySet 68 0 158 [some (.ref 0), some (.int (nI 4)), some (.int (nI l)), some (.int v), some (.ref 2)] [.int 1] (hp_SH ++ dy, g, r) [] rfl trivial rfl rfl (fun q => False.elim (absurd q (by decide))) (fun _ => ?_)
          refine mm_B ok_Sc_maySet 69 2 (166, [some (.ref 0), some (.int (nI 4)), some (.int (nI l)), some (.int v), some (.ref 2)], [.int 1], (hp_SH ++ dy, g, r)) [] rfl trivial ?_
          exact mm_rz rfl (mm_at ok_Sc_maySet (i := 72) rfl).1 ⟨Nat.le_refl _, Nat.le_refl _⟩ (Or.inr rfl) (⟨rfl, rfl⟩)
theorem ct_Sc_settable0 (dy : List mm_Sh) (g : Nat → Nat → Int32) (r : (Nat → Nat → Int64) × Nat × (Nat → Int32)) : mm_Ct 1 M_Sc_settable [.ref 0, .int (nI 0)] (hp_SH ++ dy, g, r) 0 0 (fun u h' => u = some (.ref 4) ∧ h' = (hp_SH ++ dy, g, r)) := by
  refine mm_start pl_Sc (Nat.le_of_ble_eq_true rfl) ?_
  refine mm_B ok_Sc_settable 0 5 (9, [some (.ref 0), some (.int (nI 0)), some (.ref 2)], [.int (nI 0)], (hp_SH ++ dy, g, r)) [] rfl trivial ?_
  refine mm_sw (tgt := 40) (mm_at ok_Sc_settable (i := 5) rfl).1 (by exact Or.inr ⟨by decide, _, rfl, by decide⟩) ?_
  refine mm_B ok_Sc_settable 6 2 (44, [some (.ref 0), some (.int (nI 0)), some (.ref 2)], [.ref 4], (hp_SH ++ dy, g, r)) [] rfl trivial ?_
  exact mm_ra rfl (Or.inr ⟨_, rfl⟩) rfl (mm_at ok_Sc_settable (i := 8) rfl).1 ⟨Nat.le_refl _, Nat.le_refl _⟩ (⟨rfl, rfl⟩)
theorem ct_Sc_settable1 (dy : List mm_Sh) (g : Nat → Nat → Int32) (r : (Nat → Nat → Int64) × Nat × (Nat → Int32)) : mm_Ct 1 M_Sc_settable [.ref 0, .int (nI 1)] (hp_SH ++ dy, g, r) 0 0 (fun u h' => u = some (.ref 5) ∧ h' = (hp_SH ++ dy, g, r)) := by
  refine mm_start pl_Sc (Nat.le_of_ble_eq_true rfl) ?_
  refine mm_B ok_Sc_settable 0 5 (9, [some (.ref 0), some (.int (nI 1)), some (.ref 2)], [.int (nI 1)], (hp_SH ++ dy, g, r)) [] rfl trivial ?_
  refine mm_sw (tgt := 45) (mm_at ok_Sc_settable (i := 5) rfl).1 (by exact Or.inr ⟨by decide, _, rfl, by decide⟩) ?_
  refine mm_B ok_Sc_settable 9 2 (49, [some (.ref 0), some (.int (nI 1)), some (.ref 2)], [.ref 5], (hp_SH ++ dy, g, r)) [] rfl trivial ?_
  exact mm_ra rfl (Or.inr ⟨_, rfl⟩) rfl (mm_at ok_Sc_settable (i := 11) rfl).1 ⟨Nat.le_refl _, Nat.le_refl _⟩ (⟨rfl, rfl⟩)
theorem ct_Sc_settable2 (dy : List mm_Sh) (g : Nat → Nat → Int32) (r : (Nat → Nat → Int64) × Nat × (Nat → Int32)) : mm_Ct 1 M_Sc_settable [.ref 0, .int (nI 2)] (hp_SH ++ dy, g, r) 0 0 (fun u h' => u = some (.ref 6) ∧ h' = (hp_SH ++ dy, g, r)) := by
  refine mm_start pl_Sc (Nat.le_of_ble_eq_true rfl) ?_
  refine mm_B ok_Sc_settable 0 5 (9, [some (.ref 0), some (.int (nI 2)), some (.ref 2)], [.int (nI 2)], (hp_SH ++ dy, g, r)) [] rfl trivial ?_
  refine mm_sw (tgt := 50) (mm_at ok_Sc_settable (i := 5) rfl).1 (by exact Or.inr ⟨by decide, _, rfl, by decide⟩) ?_
  refine mm_B ok_Sc_settable 12 2 (54, [some (.ref 0), some (.int (nI 2)), some (.ref 2)], [.ref 6], (hp_SH ++ dy, g, r)) [] rfl trivial ?_
  exact mm_ra rfl (Or.inr ⟨_, rfl⟩) rfl (mm_at ok_Sc_settable (i := 14) rfl).1 ⟨Nat.le_refl _, Nat.le_refl _⟩ (⟨rfl, rfl⟩)
theorem ct_Sc_settable3 (dy : List mm_Sh) (g : Nat → Nat → Int32) (r : (Nat → Nat → Int64) × Nat × (Nat → Int32)) : mm_Ct 1 M_Sc_settable [.ref 0, .int (nI 3)] (hp_SH ++ dy, g, r) 0 0 (fun u h' => u = some (.ref 7) ∧ h' = (hp_SH ++ dy, g, r)) := by
  refine mm_start pl_Sc (Nat.le_of_ble_eq_true rfl) ?_
  refine mm_B ok_Sc_settable 0 5 (9, [some (.ref 0), some (.int (nI 3)), some (.ref 2)], [.int (nI 3)], (hp_SH ++ dy, g, r)) [] rfl trivial ?_
  refine mm_sw (tgt := 55) (mm_at ok_Sc_settable (i := 5) rfl).1 (by exact Or.inr ⟨by decide, _, rfl, by decide⟩) ?_
  refine mm_B ok_Sc_settable 15 2 (59, [some (.ref 0), some (.int (nI 3)), some (.ref 2)], [.ref 7], (hp_SH ++ dy, g, r)) [] rfl trivial ?_
  exact mm_ra rfl (Or.inr ⟨_, rfl⟩) rfl (mm_at ok_Sc_settable (i := 17) rfl).1 ⟨Nat.le_refl _, Nat.le_refl _⟩ (⟨rfl, rfl⟩)
theorem ct_Sc_settable4 (dy : List mm_Sh) (g : Nat → Nat → Int32) (r : (Nat → Nat → Int64) × Nat × (Nat → Int32)) : mm_Ct 1 M_Sc_settable [.ref 0, .int (nI 4)] (hp_SH ++ dy, g, r) 0 0 (fun u h' => u = some (.ref 8) ∧ h' = (hp_SH ++ dy, g, r)) := by
  refine mm_start pl_Sc (Nat.le_of_ble_eq_true rfl) ?_
  refine mm_B ok_Sc_settable 0 5 (9, [some (.ref 0), some (.int (nI 4)), some (.ref 2)], [.int (nI 4)], (hp_SH ++ dy, g, r)) [] rfl trivial ?_
  refine mm_sw (tgt := 60) (mm_at ok_Sc_settable (i := 5) rfl).1 (by exact Or.inl ⟨by decide, by decide⟩) ?_
  refine mm_B ok_Sc_settable 18 2 (64, [some (.ref 0), some (.int (nI 4)), some (.ref 2)], [.ref 8], (hp_SH ++ dy, g, r)) [] rfl trivial ?_
  exact mm_ra rfl (Or.inr ⟨_, rfl⟩) rfl (mm_at ok_Sc_settable (i := 20) rfl).1 ⟨Nat.le_refl _, Nat.le_refl _⟩ (⟨rfl, rfl⟩)
theorem sq_of {A : sA} (h4 : A.1.1 ≤ 4) (h6 : A.2.1.1 ≤ 6) (h5 : ∀ c, c < A.2.1.1 → A.2.1.2.1 c ≤ A.2.1.2.2.1 c ∧ A.2.1.2.2.1 c ≤ 5) {w o v : Int32} {q : Nat × Nat × Nat} (h : sq_ A w o v = some q) : w = nI q.1 ∧ o = nI q.2.1 ∧ v = nI q.2.2 ∧ ((q.1 = 0 ∧ q.2.1 < A.1.1 ∧ q.2.2 ≤ 9) ∨ (q.1 = 1 ∧ q.2.1 < A.1.1 ∧ q.2.2 < 2 ^ q.2.1) ∨ (q.1 = 2 ∧ q.2.1 < A.2.1.1 ∧ q.2.2 ≤ A.2.1.2.2.1 q.2.1) ∨ (q.1 = 3 ∧ q.2.1 < A.2.1.1 ∧ A.2.1.2.1 q.2.1 ≤ q.2.2 ∧ q.2.2 ≤ 5) ∨ (q.1 = 4 ∧ q.2.1 < A.2.1.1 ∧ q.2.2 < 15)) := by
  unfold sq_ at h
  split at h
  · cases h
  · rename_i j hx
    split at h
    · cases h
    · rename_i l hy
      split at h
      · cases h
      · rename_i y hv
        cases h
        obtain ⟨hj, rfl⟩ := ix_some (by decide) hx
        have hN : (if j < 2 then A.1.1 else A.2.1.1) < 2 ^ 31 := by split <;> omega
        obtain ⟨hl, rfl⟩ := ix_some hN hy
        refine ⟨rfl, rfl, ?_⟩
        rcases (show j = 0 ∨ j = 1 ∨ j = 2 ∨ j = 3 ∨ j = 4 by omega) with rfl | rfl | rfl | rfl | rfl
        · have hl : l < A.1.1 := hl
          obtain ⟨a, b⟩ := ix_some (n := 10) (by decide) hv
          exact ⟨b, Or.inl ⟨rfl, hl, by show y ≤ 9; omega⟩⟩
        · have hl : l < A.1.1 := hl
          have h2l : 2 ^ l ≤ 16 := p2_16 (show l ≤ 4 by omega)
          obtain ⟨a, b⟩ := ix_some (n := 2 ^ l) (by omega) hv
          exact ⟨b, Or.inr (Or.inl ⟨rfl, hl, a⟩)⟩
        · have hl : l < A.2.1.1 := hl
          have := h5 l hl
          obtain ⟨a, b⟩ := ix_some (n := A.2.1.2.2.1 l + 1) (by omega) hv
          exact ⟨b, Or.inr (Or.inr (Or.inl ⟨rfl, hl, by show y ≤ A.2.1.2.2.1 l; omega⟩))⟩
        · have hl : l < A.2.1.1 := hl
          have hv : (if v < nI (A.2.1.2.1 l) then none else ix_ 6 v) = some y := hv
          split at hv
          · cases hv
          · rename_i hn
            obtain ⟨a, rfl⟩ := ix_some (by decide) hv
            refine ⟨rfl, Or.inr (Or.inr (Or.inr (Or.inl ⟨rfl, hl, ?_, by show y ≤ 5; omega⟩)))⟩
            show A.2.1.2.1 l ≤ y
            have := h5 l hl
            exact (nI_leI (by omega) (by omega)).mp (Int32.not_lt.mp hn)
        · have hl : l < A.2.1.1 := hl
          obtain ⟨a, b, -⟩ := ag_some (a := v) hv
          exact ⟨a, Or.inr (Or.inr (Or.inr (Or.inr ⟨rfl, hl, b⟩)))⟩
theorem cc_set (dy : List mm_Sh) (g : Nat → Nat → Int32) (r : (Nat → Nat → Int64) × Nat × (Nat → Int32)) {A : sA} (hI : CI dy (nr_ g) A) (hSI : SI A) (w o v : Int32) : mm_Ct 12 M_Sc_set [.ref 0, .int w, .int o, .int v] (hp_SH ++ dy, g, r) 0 0 (RC dy g r (an_set A w o v).2 (.int (an_set A w o v).1)) := by
  have hL := hI.1
  have hK := hI.2.1
  have h4 := hL.2.1
  have h6 := hK.2.1
  refine mm_start pl_Sc (Nat.le_of_ble_eq_true rfl) ?_
  refine mm_B ok_Sc_set 0 4 (4, [some (.ref 0), some (.int w), some (.int o), some (.int v), none, none], [.int v, .int o, .int w, .ref 0], (hp_SH ++ dy, g, r)) [] rfl trivial ?_
  refine mm_cV (as := [.int w, .int o, .int v]) (st := []) (q := 0) cw_Sc_maySet lk_Sc_94 in_Sc_maySet sl_Sc_maySet rfl rfl (mm_at ok_Sc_set (i := 4) rfl).1 (ct_Sc_maySet dy g r hI w o v) (by decide) ⟨by omega, by omega⟩ (Nat.le_of_ble_eq_true rfl) (mm_vs_b (b := 77) rfl (hp_len dy)) (fun v h' hqq => ?_)
  obtain ⟨rfl, hqe⟩ := hqq; rw [hqe]
  cases hq : sq_ A w o v with
  | none =>
    rw [show an_set A w o v = (-2, A) by unfold an_set; rw [hq]]
    refine mm_I ok_Sc_set 5 0 7 [some (.ref 0), some (.int w), some (.int o), some (.int v), none, none] [.int (sz_ none)] (hp_SH ++ dy, g, r) [] rfl trivial rfl rfl (fun q => False.elim (q rfl)) (fun _ => ?_)
    refine mm_B ok_Sc_set 6 1 (12, [some (.ref 0), some (.int w), some (.int o), some (.int v), none, none], [.int (-2)], (hp_SH ++ dy, g, r)) [] rfl trivial ?_
    exact mm_ri rfl (mm_at ok_Sc_set (i := 7) rfl).1 ⟨Nat.le_refl _, Nat.le_refl _⟩ (RC_q rfl hI fr_.rf)
  | some q =>
    obtain ⟨j, l, y⟩ := q
    rw [show an_set A w o v = (nI (ow_set A j l), nx_set A j l y) by unfold an_set; rw [hq]]
    obtain ⟨e1, e2, e3, hc⟩ := sq_of h4 h6 (fun c hc => ⟨(hK.2.2 c hc).2.2.1, (hK.2.2 c hc).2.2.2.1⟩) hq
    have e1 : w = nI j := e1
    have e2 : o = nI l := e2
    have e3 : v = nI y := e3
    subst e1 e2 e3
    refine mm_I ok_Sc_set 5 0 7 [some (.ref 0), some (.int (nI j)), some (.int (nI l)), some (.int (nI y)), none, none] [.int (sz_ (some (j, l, y)))] (hp_SH ++ dy, g, r) [] rfl trivial rfl rfl (fun _ => ?_) (fun q => False.elim (absurd (show (1 : Int32) = 0 from q) (by decide)))
    rcases hc with ⟨ej, hl, hy⟩ | ⟨ej, hl, hy⟩ | ⟨ej, hl, hy⟩ | ⟨ej, hl, hy⟩ | ⟨ej, hl, hy⟩
    · have ej : j = 0 := ej
      subst ej
      have hl : l < A.1.1 := hl
      refine mm_B ok_Sc_set 8 2 (15, [some (.ref 0), some (.int (nI 0)), some (.int (nI l)), some (.int (nI y)), none, none], [.int (nI 0), .ref 0], (hp_SH ++ dy, g, r)) [] rfl trivial ?_
      refine mm_cV (as := [.int (nI 0)]) (st := []) (q := 0) cw_Sc_settable lk_Sc_98 in_Sc_settable sl_Sc_settable rfl rfl (mm_at ok_Sc_set (i := 10) rfl).1 (ct_Sc_settable0 dy g r) (by decide) ⟨by omega, by omega⟩ (Nat.le_of_ble_eq_true rfl) (mm_vs_b (b := 77) rfl (hp_len dy)) (fun v h' hqq => ?_)
      obtain ⟨rfl, hqe⟩ := hqq; rw [hqe]
      refine mm_B ok_Sc_set 11 11 (35, [some (.ref 0), some (.int (nI 0)), some (.int (nI l)), some (.int (nI y)), some (.ref 4), some (.int (g 4 ((nI l).toNatClampNeg)))], [.ref 25], (hp_SH ++ dy, mm_up g 4 ((nI l).toNatClampNeg) (nI y), r)) [vp_in (nI l) 4, vp_in (nI l) 4] rfl (show (vp_in (nI l) 4) ∧ (vp_in (nI l) 4) from ⟨(nI_vi (by omega) (by decide)), (nI_vi (by omega) (by decide))⟩) ?_
      refine mm_cV (as := []) (st := []) (q := 25) cw_Se_forget lk_Sc_83 in_Se_forget sl_Se_forget rfl rfl (mm_at ok_Sc_set (i := 22) rfl).1 (ct_Se_forget dy (mm_up g 4 ((nI l).toNatClampNeg) (nI y)) r) (by decide) ⟨by omega, by omega⟩ (Nat.le_of_ble_eq_true rfl) (mm_vs_b (b := 77) rfl (hp_len dy)) (fun v h' hqq => ?_)
      obtain ⟨rfl, hqe⟩ := hqq; rw [hqe]
      refine mm_B ok_Sc_set 23 1 (40, [some (.ref 0), some (.int (nI 0)), some (.int (nI l)), some (.int (nI y)), some (.ref 4), some (.int (g 4 ((nI l).toNatClampNeg)))], [.int (g 4 ((nI l).toNatClampNeg))], (hp_SH ++ dy, mm_up (mm_up g 4 ((nI l).toNatClampNeg) (nI y)) 25 2 0, r)) [] rfl trivial ?_
      have hlc := nI_clamp (show l < 2 ^ 31 by omega)
      rw [(tl_f hL hl).2.1, hlc]
      exact mm_ri rfl (mm_at ok_Sc_set (i := 24) rfl).1 ⟨Nat.le_refl _, Nat.le_refl _⟩ (RC_g rfl (CI_set0 hI hy (mm_up_at _ 25 2 _) (by rw [up_off (by omega), mm_up_at]) (fun a j h => by rw [up_off (by omega), up_off (by omega)])) (fun a j h1 h2 => by rw [up_off (by omega), up_off (by omega)]))
    · have ej : j = 1 := ej
      subst ej
      have hl : l < A.1.1 := hl
      refine mm_B ok_Sc_set 8 2 (15, [some (.ref 0), some (.int (nI 1)), some (.int (nI l)), some (.int (nI y)), none, none], [.int (nI 1), .ref 0], (hp_SH ++ dy, g, r)) [] rfl trivial ?_
      refine mm_cV (as := [.int (nI 1)]) (st := []) (q := 0) cw_Sc_settable lk_Sc_98 in_Sc_settable sl_Sc_settable rfl rfl (mm_at ok_Sc_set (i := 10) rfl).1 (ct_Sc_settable1 dy g r) (by decide) ⟨by omega, by omega⟩ (Nat.le_of_ble_eq_true rfl) (mm_vs_b (b := 77) rfl (hp_len dy)) (fun v h' hqq => ?_)
      obtain ⟨rfl, hqe⟩ := hqq; rw [hqe]
      refine mm_B ok_Sc_set 11 11 (35, [some (.ref 0), some (.int (nI 1)), some (.int (nI l)), some (.int (nI y)), some (.ref 5), some (.int (g 5 ((nI l).toNatClampNeg)))], [.ref 25], (hp_SH ++ dy, mm_up g 5 ((nI l).toNatClampNeg) (nI y), r)) [vp_in (nI l) 4, vp_in (nI l) 4] rfl (show (vp_in (nI l) 4) ∧ (vp_in (nI l) 4) from ⟨(nI_vi (by omega) (by decide)), (nI_vi (by omega) (by decide))⟩) ?_
      refine mm_cV (as := []) (st := []) (q := 25) cw_Se_forget lk_Sc_83 in_Se_forget sl_Se_forget rfl rfl (mm_at ok_Sc_set (i := 22) rfl).1 (ct_Se_forget dy (mm_up g 5 ((nI l).toNatClampNeg) (nI y)) r) (by decide) ⟨by omega, by omega⟩ (Nat.le_of_ble_eq_true rfl) (mm_vs_b (b := 77) rfl (hp_len dy)) (fun v h' hqq => ?_)
      obtain ⟨rfl, hqe⟩ := hqq; rw [hqe]
      refine mm_B ok_Sc_set 23 1 (40, [some (.ref 0), some (.int (nI 1)), some (.int (nI l)), some (.int (nI y)), some (.ref 5), some (.int (g 5 ((nI l).toNatClampNeg)))], [.int (g 5 ((nI l).toNatClampNeg))], (hp_SH ++ dy, mm_up (mm_up g 5 ((nI l).toNatClampNeg) (nI y)) 25 2 0, r)) [] rfl trivial ?_
      have hlc := nI_clamp (show l < 2 ^ 31 by omega)
      rw [(tl_f hL hl).2.2.1, hlc]
      exact mm_ri rfl (mm_at ok_Sc_set (i := 24) rfl).1 ⟨Nat.le_refl _, Nat.le_refl _⟩ (RC_g rfl (CI_set1 hI hy (mm_up_at _ 25 2 _) (by rw [up_off (by omega), mm_up_at]) (fun a j h => by rw [up_off (by omega), up_off (by omega)])) (fun a j h1 h2 => by rw [up_off (by omega), up_off (by omega)]))
    · have ej : j = 2 := ej
      subst ej
      have hl : l < A.2.1.1 := hl
      refine mm_B ok_Sc_set 8 2 (15, [some (.ref 0), some (.int (nI 2)), some (.int (nI l)), some (.int (nI y)), none, none], [.int (nI 2), .ref 0], (hp_SH ++ dy, g, r)) [] rfl trivial ?_
      refine mm_cV (as := [.int (nI 2)]) (st := []) (q := 0) cw_Sc_settable lk_Sc_98 in_Sc_settable sl_Sc_settable rfl rfl (mm_at ok_Sc_set (i := 10) rfl).1 (ct_Sc_settable2 dy g r) (by decide) ⟨by omega, by omega⟩ (Nat.le_of_ble_eq_true rfl) (mm_vs_b (b := 77) rfl (hp_len dy)) (fun v h' hqq => ?_)
      obtain ⟨rfl, hqe⟩ := hqq; rw [hqe]
      refine mm_B ok_Sc_set 11 11 (35, [some (.ref 0), some (.int (nI 2)), some (.int (nI l)), some (.int (nI y)), some (.ref 6), some (.int (g 6 ((nI l).toNatClampNeg)))], [.ref 25], (hp_SH ++ dy, mm_up g 6 ((nI l).toNatClampNeg) (nI y), r)) [vp_in (nI l) 6, vp_in (nI l) 6] rfl (show (vp_in (nI l) 6) ∧ (vp_in (nI l) 6) from ⟨(nI_vi (by omega) (by decide)), (nI_vi (by omega) (by decide))⟩) ?_
      refine mm_cV (as := []) (st := []) (q := 25) cw_Se_forget lk_Sc_83 in_Se_forget sl_Se_forget rfl rfl (mm_at ok_Sc_set (i := 22) rfl).1 (ct_Se_forget dy (mm_up g 6 ((nI l).toNatClampNeg) (nI y)) r) (by decide) ⟨by omega, by omega⟩ (Nat.le_of_ble_eq_true rfl) (mm_vs_b (b := 77) rfl (hp_len dy)) (fun v h' hqq => ?_)
      obtain ⟨rfl, hqe⟩ := hqq; rw [hqe]
      refine mm_B ok_Sc_set 23 1 (40, [some (.ref 0), some (.int (nI 2)), some (.int (nI l)), some (.int (nI y)), some (.ref 6), some (.int (g 6 ((nI l).toNatClampNeg)))], [.int (g 6 ((nI l).toNatClampNeg))], (hp_SH ++ dy, mm_up (mm_up g 6 ((nI l).toNatClampNeg) (nI y)) 25 2 0, r)) [] rfl trivial ?_
      have hlc := nI_clamp (show l < 2 ^ 31 by omega)
      rw [(tc_f hK hl).1, hlc]
      exact mm_ri rfl (mm_at ok_Sc_set (i := 24) rfl).1 ⟨Nat.le_refl _, Nat.le_refl _⟩ (RC_g rfl (CI_set2 hI hy (mm_up_at _ 25 2 _) (by rw [up_off (by omega), mm_up_at]) (fun a j h => by rw [up_off (by omega), up_off (by omega)])) (fun a j h1 h2 => by rw [up_off (by omega), up_off (by omega)]))
    · have ej : j = 3 := ej
      subst ej
      have hl : l < A.2.1.1 := hl
      refine mm_B ok_Sc_set 8 2 (15, [some (.ref 0), some (.int (nI 3)), some (.int (nI l)), some (.int (nI y)), none, none], [.int (nI 3), .ref 0], (hp_SH ++ dy, g, r)) [] rfl trivial ?_
      refine mm_cV (as := [.int (nI 3)]) (st := []) (q := 0) cw_Sc_settable lk_Sc_98 in_Sc_settable sl_Sc_settable rfl rfl (mm_at ok_Sc_set (i := 10) rfl).1 (ct_Sc_settable3 dy g r) (by decide) ⟨by omega, by omega⟩ (Nat.le_of_ble_eq_true rfl) (mm_vs_b (b := 77) rfl (hp_len dy)) (fun v h' hqq => ?_)
      obtain ⟨rfl, hqe⟩ := hqq; rw [hqe]
      refine mm_B ok_Sc_set 11 11 (35, [some (.ref 0), some (.int (nI 3)), some (.int (nI l)), some (.int (nI y)), some (.ref 7), some (.int (g 7 ((nI l).toNatClampNeg)))], [.ref 25], (hp_SH ++ dy, mm_up g 7 ((nI l).toNatClampNeg) (nI y), r)) [vp_in (nI l) 6, vp_in (nI l) 6] rfl (show (vp_in (nI l) 6) ∧ (vp_in (nI l) 6) from ⟨(nI_vi (by omega) (by decide)), (nI_vi (by omega) (by decide))⟩) ?_
      refine mm_cV (as := []) (st := []) (q := 25) cw_Se_forget lk_Sc_83 in_Se_forget sl_Se_forget rfl rfl (mm_at ok_Sc_set (i := 22) rfl).1 (ct_Se_forget dy (mm_up g 7 ((nI l).toNatClampNeg) (nI y)) r) (by decide) ⟨by omega, by omega⟩ (Nat.le_of_ble_eq_true rfl) (mm_vs_b (b := 77) rfl (hp_len dy)) (fun v h' hqq => ?_)
      obtain ⟨rfl, hqe⟩ := hqq; rw [hqe]
      refine mm_B ok_Sc_set 23 1 (40, [some (.ref 0), some (.int (nI 3)), some (.int (nI l)), some (.int (nI y)), some (.ref 7), some (.int (g 7 ((nI l).toNatClampNeg)))], [.int (g 7 ((nI l).toNatClampNeg))], (hp_SH ++ dy, mm_up (mm_up g 7 ((nI l).toNatClampNeg) (nI y)) 25 2 0, r)) [] rfl trivial ?_
      have hlc := nI_clamp (show l < 2 ^ 31 by omega)
      rw [(tc_f hK hl).2.1, hlc]
      exact mm_ri rfl (mm_at ok_Sc_set (i := 24) rfl).1 ⟨Nat.le_refl _, Nat.le_refl _⟩ (RC_g rfl (CI_set3 hI hy (mm_up_at _ 25 2 _) (by rw [up_off (by omega), mm_up_at]) (fun a j h => by rw [up_off (by omega), up_off (by omega)])) (fun a j h1 h2 => by rw [up_off (by omega), up_off (by omega)]))
    · have ej : j = 4 := ej
      subst ej
      have hl : l < A.2.1.1 := hl
      refine mm_B ok_Sc_set 8 2 (15, [some (.ref 0), some (.int (nI 4)), some (.int (nI l)), some (.int (nI y)), none, none], [.int (nI 4), .ref 0], (hp_SH ++ dy, g, r)) [] rfl trivial ?_
      refine mm_cV (as := [.int (nI 4)]) (st := []) (q := 0) cw_Sc_settable lk_Sc_98 in_Sc_settable sl_Sc_settable rfl rfl (mm_at ok_Sc_set (i := 10) rfl).1 (ct_Sc_settable4 dy g r) (by decide) ⟨by omega, by omega⟩ (Nat.le_of_ble_eq_true rfl) (mm_vs_b (b := 77) rfl (hp_len dy)) (fun v h' hqq => ?_)
      obtain ⟨rfl, hqe⟩ := hqq; rw [hqe]
      refine mm_B ok_Sc_set 11 11 (35, [some (.ref 0), some (.int (nI 4)), some (.int (nI l)), some (.int (nI y)), some (.ref 8), some (.int (g 8 ((nI l).toNatClampNeg)))], [.ref 25], (hp_SH ++ dy, mm_up g 8 ((nI l).toNatClampNeg) (nI y), r)) [vp_in (nI l) 6, vp_in (nI l) 6] rfl (show (vp_in (nI l) 6) ∧ (vp_in (nI l) 6) from ⟨(nI_vi (by omega) (by decide)), (nI_vi (by omega) (by decide))⟩) ?_
      refine mm_cV (as := []) (st := []) (q := 25) cw_Se_forget lk_Sc_83 in_Se_forget sl_Se_forget rfl rfl (mm_at ok_Sc_set (i := 22) rfl).1 (ct_Se_forget dy (mm_up g 8 ((nI l).toNatClampNeg) (nI y)) r) (by decide) ⟨by omega, by omega⟩ (Nat.le_of_ble_eq_true rfl) (mm_vs_b (b := 77) rfl (hp_len dy)) (fun v h' hqq => ?_)
      obtain ⟨rfl, hqe⟩ := hqq; rw [hqe]
      refine mm_B ok_Sc_set 23 1 (40, [some (.ref 0), some (.int (nI 4)), some (.int (nI l)), some (.int (nI y)), some (.ref 8), some (.int (g 8 ((nI l).toNatClampNeg)))], [.int (g 8 ((nI l).toNatClampNeg))], (hp_SH ++ dy, mm_up (mm_up g 8 ((nI l).toNatClampNeg) (nI y)) 25 2 0, r)) [] rfl trivial ?_
      have hlc := nI_clamp (show l < 2 ^ 31 by omega)
      rw [(tc_f hK hl).2.2, hlc]
      exact mm_ri rfl (mm_at ok_Sc_set (i := 24) rfl).1 ⟨Nat.le_refl _, Nat.le_refl _⟩ (RC_g rfl (CI_set4 hI hy (mm_up_at _ 25 2 _) (by rw [up_off (by omega), mm_up_at]) (fun a j h => by rw [up_off (by omega), up_off (by omega)])) (fun a j h1 h2 => by rw [up_off (by omega), up_off (by omega)]))
theorem vy3 {v : Int32} {a y : Nat} (h : (if v < nI a then none else ix_ 6 v) = some y) : ¬ v < nI a ∧ ix_ 6 v = some y := by
  split at h
  · cases h
  · exact ⟨‹_›, h⟩
theorem cm_set (dy : List mm_Sh) (g : Nat → Nat → Int32) (r : (Nat → Nat → Int64) × Nat × (Nat → Int32)) {A : sA} (hI : MI (nr_ g) A) (hSI : SI A) (w o v : Int32) : mm_Ct 12 M_Mo_set [.ref 52, .int w, .int o, .int v] (hp_SH ++ dy, g, r) 0 0 (RM dy g r (an_set A w o v).2 (.int (an_set A w o v).1)) := by
  have hL := hI.1
  have hK := hI.2.1
  have h4 := hL.2.1
  have h6 := hK.2.1
  have e10 : g 52 10 = nI A.1.1 := by rw [← nr_eq g (k := 52) (j := 10) rfl]; exact hL.1
  have e14 : g 52 14 = nI A.2.1.1 := by rw [← nr_eq g (k := 52) (j := 14) rfl]; exact hK.1
  refine mm_start pl_Mo (Nat.le_of_ble_eq_true rfl) ?_
  cases hx : ix_ 5 w with
  | none =>
    rw [show an_set A w o v = (-2, A) by unfold an_set sq_; rw [hx]]
    refine mm_B ok_Mo_set 0 4 (6, [some (.ref 52), some (.int w), some (.int o), some (.int v), none], [.long 4, .long 0, .long (w).toInt64], (hp_SH ++ dy, g, r)) [] rfl trivial ?_
    refine mm_cS (as := [.long (w).toInt64, .long 0, .long 4]) (st := []) cw_Mo_in lk_Mo_100 sx_Mo_in (mm_at ok_Mo_set (i := 4) rfl).1 (ct_Mo_in (hp_SH ++ dy, g, r) w.toInt64 0 4) (by decide) ⟨by omega, by omega⟩ (Nat.le_of_ble_eq_true rfl) (mm_vs_b (b := 77) rfl (hp_len dy)) (fun v h' hqq => ?_)
    obtain ⟨rfl, hqe⟩ := hqq; rw [hqe, in_5 w, hx]
    refine mm_I ok_Mo_set 5 0 9 [some (.ref 52), some (.int w), some (.int o), some (.int v), none] [.int (iz_ none)] (hp_SH ++ dy, g, r) [] rfl trivial rfl rfl (fun _ => ?_) (fun q => False.elim (q rfl))
    refine mm_B ok_Mo_set 18 1 (38, [some (.ref 52), some (.int w), some (.int o), some (.int v), none], [.int (-2)], (hp_SH ++ dy, g, r)) [] rfl trivial ?_
    exact mm_ri rfl (mm_at ok_Mo_set (i := 19) rfl).1 ⟨Nat.le_refl _, Nat.le_refl _⟩ (RM_q rfl hI fr_.rf)
  | some j =>
    obtain ⟨hj, rfl⟩ := ix_some (by decide) hx
    rcases (show j = 0 ∨ j = 1 ∨ j = 2 ∨ j = 3 ∨ j = 4 by omega) with rfl | rfl | rfl | rfl | rfl
    · cases hy : ix_ A.1.1 o with
      | none =>
        rw [show an_set A (nI 0) o v = (-2, A) by unfold an_set; rw [show sq_ A (nI 0) o v = none by unfold sq_; rw [hx]; show (match ix_ A.1.1 o with | none => _ | some l => _) = _; rw [hy]]]
        refine mm_B ok_Mo_set 0 4 (6, [some (.ref 52), some (.int (nI 0)), some (.int o), some (.int v), none], [.long 4, .long 0, .long ((nI 0)).toInt64], (hp_SH ++ dy, g, r)) [] rfl trivial ?_
        refine mm_cS (as := [.long ((nI 0)).toInt64, .long 0, .long 4]) (st := []) cw_Mo_in lk_Mo_100 sx_Mo_in (mm_at ok_Mo_set (i := 4) rfl).1 (ct_Mo_in (hp_SH ++ dy, g, r) (nI 0).toInt64 0 4) (by decide) ⟨by omega, by omega⟩ (Nat.le_of_ble_eq_true rfl) (mm_vs_b (b := 77) rfl (hp_len dy)) (fun v h' hqq => ?_)
        obtain ⟨rfl, hqe⟩ := hqq; rw [hqe, in_5 (nI 0), hx]
        refine mm_I ok_Mo_set 5 0 9 [some (.ref 52), some (.int (nI 0)), some (.int o), some (.int v), none] [.int (iz_ (some 0))] (hp_SH ++ dy, g, r) [] rfl trivial rfl rfl (fun q => False.elim (one0 q)) (fun _ => ?_)
        refine mm_I ok_Mo_set 6 2 14 [some (.ref 52), some (.int (nI 0)), some (.int o), some (.int v), none] [.int 2, .int (nI 0)] (hp_SH ++ dy, g, r) [] rfl trivial rfl rfl (fun q => False.elim (absurd q (by decide))) (fun _ => ?_)
        refine mm_B ok_Mo_set 9 2 (19, [some (.ref 52), some (.int (nI 0)), some (.int o), some (.int v), none], [.int o, .ref 52], (hp_SH ++ dy, g, r)) [] rfl trivial ?_
        refine mm_cV (as := [.int o]) (st := []) (q := 52) cw_Mo_isLesson lk_Mo_117 in_Mo_isLesson sl_Mo_isLesson rfl rfl (mm_at ok_Mo_set (i := 11) rfl).1 (ct_Mo_isLesson dy g r o) (by decide) ⟨by omega, by omega⟩ (Nat.le_of_ble_eq_true rfl) (mm_vs_b (b := 77) rfl (hp_len dy)) (fun v h' hqq => ?_)
        obtain ⟨rfl, hqe⟩ := hqq; rw [hqe]
        rw [ml_x (by omega) e10 o, hy]
        refine mm_I ok_Mo_set 12 0 22 [some (.ref 52), some (.int (nI 0)), some (.int o), some (.int v), none] [.int (iz_ none)] (hp_SH ++ dy, g, r) [] rfl trivial rfl rfl (fun _ => ?_) (fun q => False.elim (q rfl))
        refine mm_B ok_Mo_set 18 1 (38, [some (.ref 52), some (.int (nI 0)), some (.int o), some (.int v), none], [.int (-2)], (hp_SH ++ dy, g, r)) [] rfl trivial ?_
        exact mm_ri rfl (mm_at ok_Mo_set (i := 19) rfl).1 ⟨Nat.le_refl _, Nat.le_refl _⟩ (RM_q rfl hI fr_.rf)
      | some l =>
        obtain ⟨hl, rfl⟩ := ix_some (by omega) hy
        have h2l : 2 ^ l ≤ 16 := p2_16 (show l ≤ 4 by omega)
        have hs : an_set A (nI 0) (nI l) v = (match ix_ 10 v with | none => (-2, A) | some y => (nI (ow_set A 0 l), nx_set A 0 l y)) := by
          have hq : sq_ A (nI 0) (nI l) v = (match ix_ 10 v with | none => none | some y => some (0, l, y)) := by unfold sq_; rw [hx]; show (match ix_ A.1.1 (nI l) with | none => _ | some l => _) = _; rw [hy]; rfl
          unfold an_set; rw [hq]
          cases ix_ 10 v with | none => rfl | some y => rfl
        rw [hs]
        clear hs
        refine mm_B ok_Mo_set 0 4 (6, [some (.ref 52), some (.int (nI 0)), some (.int (nI l)), some (.int v), none], [.long 4, .long 0, .long ((nI 0)).toInt64], (hp_SH ++ dy, g, r)) [] rfl trivial ?_
        refine mm_cS (as := [.long ((nI 0)).toInt64, .long 0, .long 4]) (st := []) cw_Mo_in lk_Mo_100 sx_Mo_in (mm_at ok_Mo_set (i := 4) rfl).1 (ct_Mo_in (hp_SH ++ dy, g, r) (nI 0).toInt64 0 4) (by decide) ⟨by omega, by omega⟩ (Nat.le_of_ble_eq_true rfl) (mm_vs_b (b := 77) rfl (hp_len dy)) (fun v h' hqq => ?_)
        obtain ⟨rfl, hqe⟩ := hqq; rw [hqe, in_5 (nI 0), hx]
        refine mm_I ok_Mo_set 5 0 9 [some (.ref 52), some (.int (nI 0)), some (.int (nI l)), some (.int v), none] [.int (iz_ (some 0))] (hp_SH ++ dy, g, r) [] rfl trivial rfl rfl (fun q => False.elim (one0 q)) (fun _ => ?_)
        refine mm_I ok_Mo_set 6 2 14 [some (.ref 52), some (.int (nI 0)), some (.int (nI l)), some (.int v), none] [.int 2, .int (nI 0)] (hp_SH ++ dy, g, r) [] rfl trivial rfl rfl (fun q => False.elim (absurd q (by decide))) (fun _ => ?_)
        refine mm_B ok_Mo_set 9 2 (19, [some (.ref 52), some (.int (nI 0)), some (.int (nI l)), some (.int v), none], [.int (nI l), .ref 52], (hp_SH ++ dy, g, r)) [] rfl trivial ?_
        refine mm_cV (as := [.int (nI l)]) (st := []) (q := 52) cw_Mo_isLesson lk_Mo_117 in_Mo_isLesson sl_Mo_isLesson rfl rfl (mm_at ok_Mo_set (i := 11) rfl).1 (ct_Mo_isLesson dy g r (nI l)) (by decide) ⟨by omega, by omega⟩ (Nat.le_of_ble_eq_true rfl) (mm_vs_b (b := 77) rfl (hp_len dy)) (fun v h' hqq => ?_)
        obtain ⟨rfl, hqe⟩ := hqq; rw [hqe]
        rw [ml_x (by omega) e10 (nI l), hy]
        refine mm_I ok_Mo_set 12 0 22 [some (.ref 52), some (.int (nI 0)), some (.int (nI l)), some (.int v), none] [.int (iz_ (some l))] (hp_SH ++ dy, g, r) [] rfl trivial rfl rfl (fun q => False.elim (one0 q)) (fun _ => ?_)
        refine mm_B ok_Mo_set 13 1 (39, [some (.ref 52), some (.int (nI 0)), some (.int (nI l)), some (.int v), none], [], (hp_SH ++ dy, g, r)) [] rfl trivial ?_
        refine mm_I ok_Mo_set 20 1 40 [some (.ref 52), some (.int (nI 0)), some (.int (nI l)), some (.int v), none] [.int (nI 0)] (hp_SH ++ dy, g, r) [] rfl trivial rfl rfl (fun q => False.elim (q (by decide))) (fun _ => ?_)
        refine mm_B ok_Mo_set 22 4 (49, [some (.ref 52), some (.int (nI 0)), some (.int (nI l)), some (.int v), none], [.long 9, .long 0, .long (v).toInt64], (hp_SH ++ dy, g, r)) [] rfl trivial ?_
        refine mm_cS (as := [.long (v).toInt64, .long 0, .long 9]) (st := []) cw_Mo_in lk_Mo_100 sx_Mo_in (mm_at ok_Mo_set (i := 26) rfl).1 (ct_Mo_in (hp_SH ++ dy, g, r) v.toInt64 0 9) (by decide) ⟨by omega, by omega⟩ (Nat.le_of_ble_eq_true rfl) (mm_vs_b (b := 77) rfl (hp_len dy)) (fun v h' hqq => ?_)
        obtain ⟨rfl, hqe⟩ := hqq; rw [hqe, in_10 v]
        cases hv : ix_ 10 v with
        | none =>
          refine mm_I ok_Mo_set 27 0 52 [some (.ref 52), some (.int (nI 0)), some (.int (nI l)), some (.int v), none] [.int (iz_ none)] (hp_SH ++ dy, g, r) [] rfl trivial rfl rfl (fun _ => ?_) (fun q => False.elim (q rfl))
          refine mm_B ok_Mo_set 77 1 (140, [some (.ref 52), some (.int (nI 0)), some (.int (nI l)), some (.int v), none], [.int (-2)], (hp_SH ++ dy, g, r)) [] rfl trivial ?_
          exact mm_ri rfl (mm_at ok_Mo_set (i := 78) rfl).1 ⟨Nat.le_refl _, Nat.le_refl _⟩ (RM_q rfl hI fr_.rf)
        | some y =>
          obtain ⟨hy1, rfl⟩ := ix_some (by decide) hv
          refine mm_I ok_Mo_set 27 0 52 [some (.ref 52), some (.int (nI 0)), some (.int (nI l)), some (.int (nI y)), none] [.int (iz_ (some y))] (hp_SH ++ dy, g, r) [] rfl trivial rfl rfl (fun q => False.elim (one0 q)) (fun _ => ?_)
          refine mm_I ok_Mo_set 28 2 57 [some (.ref 52), some (.int (nI 0)), some (.int (nI l)), some (.int (nI y)), none] [.int 1, .int (nI 0)] (hp_SH ++ dy, g, r) [] rfl trivial rfl rfl (fun _ => ?_) (fun q => False.elim (absurd q (by decide)))
          refine mm_I ok_Mo_set 42 2 77 [some (.ref 52), some (.int (nI 0)), some (.int (nI l)), some (.int (nI y)), none] [.int 2, .int (nI 0)] (hp_SH ++ dy, g, r) [] rfl trivial rfl rfl (fun _ => ?_) (fun q => False.elim (absurd q (by decide)))
          refine mm_I ok_Mo_set 55 2 98 [some (.ref 52), some (.int (nI 0)), some (.int (nI l)), some (.int (nI y)), none] [.int 3, .int (nI 0)] (hp_SH ++ dy, g, r) [] rfl trivial rfl rfl (fun _ => ?_) (fun q => False.elim (absurd q (by decide)))
          refine mm_I ok_Mo_set 68 2 121 [some (.ref 52), some (.int (nI 0)), some (.int (nI l)), some (.int (nI y)), none] [.int 4, .int (nI 0)] (hp_SH ++ dy, g, r) [] rfl trivial rfl rfl (fun _ => ?_) (fun q => False.elim (absurd q (by decide)))
          refine mm_I ok_Mo_set 79 1 142 [some (.ref 52), some (.int (nI 0)), some (.int (nI l)), some (.int (nI y)), none] [.int (nI 0)] (hp_SH ++ dy, g, r) [] rfl trivial rfl rfl (fun q => False.elim (q (by decide))) (fun _ => ?_)
          refine mm_B ok_Mo_set 81 5 (202, [some (.ref 52), some (.int (nI 0)), some (.int (nI l)), some (.int (nI y)), none], [.int (g 57 ((nI l).toNatClampNeg))], (hp_SH ++ dy, g, r)) [vp_in (nI l) 4] rfl (show vp_in (nI l) 4 from (nI_vi (by omega) (by decide))) ?_
          refine mm_I ok_Mo_set 114 2 205 [some (.ref 52), some (.int (nI 0)), some (.int (nI l)), some (.int (nI y)), some (.int (g 57 ((nI l).toNatClampNeg)))] [.int (nI 0)] (hp_SH ++ dy, g, r) [] rfl trivial rfl rfl (fun q => False.elim (q (by decide))) (fun _ => ?_)
          refine mm_B ok_Mo_set 117 6 (270, [some (.ref 52), some (.int (nI 0)), some (.int (nI l)), some (.int (nI y)), some (.int (g 57 ((nI l).toNatClampNeg)))], [], (hp_SH ++ dy, mm_up g 57 ((nI l).toNatClampNeg) (nI y), r)) [vp_in (nI l) 4] rfl (show vp_in (nI l) 4 from (nI_vi (by omega) (by decide))) ?_
          refine mm_B ok_Mo_set 155 1 (272, [some (.ref 52), some (.int (nI 0)), some (.int (nI l)), some (.int (nI y)), some (.int (g 57 ((nI l).toNatClampNeg)))], [.int (g 57 ((nI l).toNatClampNeg))], (hp_SH ++ dy, mm_up g 57 ((nI l).toNatClampNeg) (nI y), r)) [] rfl trivial ?_
          have hlc := nI_clamp (show l < 2 ^ 31 by omega)
          rw [(tm_f hL hl).2.1, hlc]
          exact mm_ri rfl (mm_at ok_Mo_set (i := 156) rfl).1 ⟨Nat.le_refl _, Nat.le_refl _⟩ (RM_g rfl (MI_set0 (dy := dy) hI (by omega) (mm_up_at _ 57 _ _) (fun a j h => by rw [up_off (by omega)])) (fun a j h1 => by rw [up_off (by omega)]))
    · cases hy : ix_ A.1.1 o with
      | none =>
        rw [show an_set A (nI 1) o v = (-2, A) by unfold an_set; rw [show sq_ A (nI 1) o v = none by unfold sq_; rw [hx]; show (match ix_ A.1.1 o with | none => _ | some l => _) = _; rw [hy]]]
        refine mm_B ok_Mo_set 0 4 (6, [some (.ref 52), some (.int (nI 1)), some (.int o), some (.int v), none], [.long 4, .long 0, .long ((nI 1)).toInt64], (hp_SH ++ dy, g, r)) [] rfl trivial ?_
        refine mm_cS (as := [.long ((nI 1)).toInt64, .long 0, .long 4]) (st := []) cw_Mo_in lk_Mo_100 sx_Mo_in (mm_at ok_Mo_set (i := 4) rfl).1 (ct_Mo_in (hp_SH ++ dy, g, r) (nI 1).toInt64 0 4) (by decide) ⟨by omega, by omega⟩ (Nat.le_of_ble_eq_true rfl) (mm_vs_b (b := 77) rfl (hp_len dy)) (fun v h' hqq => ?_)
        obtain ⟨rfl, hqe⟩ := hqq; rw [hqe, in_5 (nI 1), hx]
        refine mm_I ok_Mo_set 5 0 9 [some (.ref 52), some (.int (nI 1)), some (.int o), some (.int v), none] [.int (iz_ (some 1))] (hp_SH ++ dy, g, r) [] rfl trivial rfl rfl (fun q => False.elim (one0 q)) (fun _ => ?_)
        refine mm_I ok_Mo_set 6 2 14 [some (.ref 52), some (.int (nI 1)), some (.int o), some (.int v), none] [.int 2, .int (nI 1)] (hp_SH ++ dy, g, r) [] rfl trivial rfl rfl (fun q => False.elim (absurd q (by decide))) (fun _ => ?_)
        refine mm_B ok_Mo_set 9 2 (19, [some (.ref 52), some (.int (nI 1)), some (.int o), some (.int v), none], [.int o, .ref 52], (hp_SH ++ dy, g, r)) [] rfl trivial ?_
        refine mm_cV (as := [.int o]) (st := []) (q := 52) cw_Mo_isLesson lk_Mo_117 in_Mo_isLesson sl_Mo_isLesson rfl rfl (mm_at ok_Mo_set (i := 11) rfl).1 (ct_Mo_isLesson dy g r o) (by decide) ⟨by omega, by omega⟩ (Nat.le_of_ble_eq_true rfl) (mm_vs_b (b := 77) rfl (hp_len dy)) (fun v h' hqq => ?_)
        obtain ⟨rfl, hqe⟩ := hqq; rw [hqe]
        rw [ml_x (by omega) e10 o, hy]
        refine mm_I ok_Mo_set 12 0 22 [some (.ref 52), some (.int (nI 1)), some (.int o), some (.int v), none] [.int (iz_ none)] (hp_SH ++ dy, g, r) [] rfl trivial rfl rfl (fun _ => ?_) (fun q => False.elim (q rfl))
        refine mm_B ok_Mo_set 18 1 (38, [some (.ref 52), some (.int (nI 1)), some (.int o), some (.int v), none], [.int (-2)], (hp_SH ++ dy, g, r)) [] rfl trivial ?_
        exact mm_ri rfl (mm_at ok_Mo_set (i := 19) rfl).1 ⟨Nat.le_refl _, Nat.le_refl _⟩ (RM_q rfl hI fr_.rf)
      | some l =>
        obtain ⟨hl, rfl⟩ := ix_some (by omega) hy
        have h2l : 2 ^ l ≤ 16 := p2_16 (show l ≤ 4 by omega)
        have hs : an_set A (nI 1) (nI l) v = (match ix_ (2 ^ l) v with | none => (-2, A) | some y => (nI (ow_set A 1 l), nx_set A 1 l y)) := by
          have hq : sq_ A (nI 1) (nI l) v = (match ix_ (2 ^ l) v with | none => none | some y => some (1, l, y)) := by unfold sq_; rw [hx]; show (match ix_ A.1.1 (nI l) with | none => _ | some l => _) = _; rw [hy]; rfl
          unfold an_set; rw [hq]
          cases ix_ (2 ^ l) v with | none => rfl | some y => rfl
        rw [hs]
        clear hs
        refine mm_B ok_Mo_set 0 4 (6, [some (.ref 52), some (.int (nI 1)), some (.int (nI l)), some (.int v), none], [.long 4, .long 0, .long ((nI 1)).toInt64], (hp_SH ++ dy, g, r)) [] rfl trivial ?_
        refine mm_cS (as := [.long ((nI 1)).toInt64, .long 0, .long 4]) (st := []) cw_Mo_in lk_Mo_100 sx_Mo_in (mm_at ok_Mo_set (i := 4) rfl).1 (ct_Mo_in (hp_SH ++ dy, g, r) (nI 1).toInt64 0 4) (by decide) ⟨by omega, by omega⟩ (Nat.le_of_ble_eq_true rfl) (mm_vs_b (b := 77) rfl (hp_len dy)) (fun v h' hqq => ?_)
        obtain ⟨rfl, hqe⟩ := hqq; rw [hqe, in_5 (nI 1), hx]
        refine mm_I ok_Mo_set 5 0 9 [some (.ref 52), some (.int (nI 1)), some (.int (nI l)), some (.int v), none] [.int (iz_ (some 1))] (hp_SH ++ dy, g, r) [] rfl trivial rfl rfl (fun q => False.elim (one0 q)) (fun _ => ?_)
        refine mm_I ok_Mo_set 6 2 14 [some (.ref 52), some (.int (nI 1)), some (.int (nI l)), some (.int v), none] [.int 2, .int (nI 1)] (hp_SH ++ dy, g, r) [] rfl trivial rfl rfl (fun q => False.elim (absurd q (by decide))) (fun _ => ?_)
        refine mm_B ok_Mo_set 9 2 (19, [some (.ref 52), some (.int (nI 1)), some (.int (nI l)), some (.int v), none], [.int (nI l), .ref 52], (hp_SH ++ dy, g, r)) [] rfl trivial ?_
        refine mm_cV (as := [.int (nI l)]) (st := []) (q := 52) cw_Mo_isLesson lk_Mo_117 in_Mo_isLesson sl_Mo_isLesson rfl rfl (mm_at ok_Mo_set (i := 11) rfl).1 (ct_Mo_isLesson dy g r (nI l)) (by decide) ⟨by omega, by omega⟩ (Nat.le_of_ble_eq_true rfl) (mm_vs_b (b := 77) rfl (hp_len dy)) (fun v h' hqq => ?_)
        obtain ⟨rfl, hqe⟩ := hqq; rw [hqe]
        rw [ml_x (by omega) e10 (nI l), hy]
        refine mm_I ok_Mo_set 12 0 22 [some (.ref 52), some (.int (nI 1)), some (.int (nI l)), some (.int v), none] [.int (iz_ (some l))] (hp_SH ++ dy, g, r) [] rfl trivial rfl rfl (fun q => False.elim (one0 q)) (fun _ => ?_)
        refine mm_B ok_Mo_set 13 1 (39, [some (.ref 52), some (.int (nI 1)), some (.int (nI l)), some (.int v), none], [], (hp_SH ++ dy, g, r)) [] rfl trivial ?_
        refine mm_I ok_Mo_set 20 1 40 [some (.ref 52), some (.int (nI 1)), some (.int (nI l)), some (.int v), none] [.int (nI 1)] (hp_SH ++ dy, g, r) [] rfl trivial rfl rfl (fun _ => ?_) (fun q => False.elim (absurd q (by decide)))
        refine mm_I ok_Mo_set 28 2 57 [some (.ref 52), some (.int (nI 1)), some (.int (nI l)), some (.int v), none] [.int 1, .int (nI 1)] (hp_SH ++ dy, g, r) [] rfl trivial rfl rfl (fun q => False.elim (q (by decide))) (fun _ => ?_)
        refine mm_B ok_Mo_set 31 9 (69, [some (.ref 52), some (.int (nI 1)), some (.int (nI l)), some (.int v), none], [.long (((1 <<< ((nI l) &&& 31)) - 1)).toInt64, .long 0, .long (v).toInt64], (hp_SH ++ dy, g, r)) [] rfl trivial ?_
        rw [ev6' l (by omega)]
        refine mm_cS (as := [.long (v).toInt64, .long 0, .long (((nI (2 ^ l)) - 1)).toInt64]) (st := []) cw_Mo_in lk_Mo_100 sx_Mo_in (mm_at ok_Mo_set (i := 40) rfl).1 (ct_Mo_in (hp_SH ++ dy, g, r) v.toInt64 0 (nI (2 ^ l) - 1).toInt64) (by decide) ⟨by omega, by omega⟩ (Nat.le_of_ble_eq_true rfl) (mm_vs_b (b := 77) rfl (hp_len dy)) (fun v h' hqq => ?_)
        obtain ⟨rfl, hqe⟩ := hqq; rw [hqe, mls_ok (show l ≤ 4 by omega) v]
        cases hv : ix_ (2 ^ l) v with
        | none =>
          refine mm_I ok_Mo_set 41 0 72 [some (.ref 52), some (.int (nI 1)), some (.int (nI l)), some (.int v), none] [.int (iz_ none)] (hp_SH ++ dy, g, r) [] rfl trivial rfl rfl (fun _ => ?_) (fun q => False.elim (q rfl))
          refine mm_B ok_Mo_set 77 1 (140, [some (.ref 52), some (.int (nI 1)), some (.int (nI l)), some (.int v), none], [.int (-2)], (hp_SH ++ dy, g, r)) [] rfl trivial ?_
          exact mm_ri rfl (mm_at ok_Mo_set (i := 78) rfl).1 ⟨Nat.le_refl _, Nat.le_refl _⟩ (RM_q rfl hI fr_.rf)
        | some y =>
          obtain ⟨hy1, rfl⟩ := ix_some (by omega) hv
          refine mm_I ok_Mo_set 41 0 72 [some (.ref 52), some (.int (nI 1)), some (.int (nI l)), some (.int (nI y)), none] [.int (iz_ (some y))] (hp_SH ++ dy, g, r) [] rfl trivial rfl rfl (fun q => False.elim (one0 q)) (fun _ => ?_)
          refine mm_I ok_Mo_set 42 2 77 [some (.ref 52), some (.int (nI 1)), some (.int (nI l)), some (.int (nI y)), none] [.int 2, .int (nI 1)] (hp_SH ++ dy, g, r) [] rfl trivial rfl rfl (fun _ => ?_) (fun q => False.elim (absurd q (by decide)))
          refine mm_I ok_Mo_set 55 2 98 [some (.ref 52), some (.int (nI 1)), some (.int (nI l)), some (.int (nI y)), none] [.int 3, .int (nI 1)] (hp_SH ++ dy, g, r) [] rfl trivial rfl rfl (fun _ => ?_) (fun q => False.elim (absurd q (by decide)))
          refine mm_I ok_Mo_set 68 2 121 [some (.ref 52), some (.int (nI 1)), some (.int (nI l)), some (.int (nI y)), none] [.int 4, .int (nI 1)] (hp_SH ++ dy, g, r) [] rfl trivial rfl rfl (fun _ => ?_) (fun q => False.elim (absurd q (by decide)))
          refine mm_I ok_Mo_set 79 1 142 [some (.ref 52), some (.int (nI 1)), some (.int (nI l)), some (.int (nI y)), none] [.int (nI 1)] (hp_SH ++ dy, g, r) [] rfl trivial rfl rfl (fun _ => ?_) (fun q => False.elim (absurd q (by decide)))
          refine mm_I ok_Mo_set 86 2 156 [some (.ref 52), some (.int (nI 1)), some (.int (nI l)), some (.int (nI y)), none] [.int 1, .int (nI 1)] (hp_SH ++ dy, g, r) [] rfl trivial rfl rfl (fun q => False.elim (q (by decide))) (fun _ => ?_)
          refine mm_B ok_Mo_set 89 5 (202, [some (.ref 52), some (.int (nI 1)), some (.int (nI l)), some (.int (nI y)), none], [.int (g 58 ((nI l).toNatClampNeg))], (hp_SH ++ dy, g, r)) [vp_in (nI l) 4] rfl (show vp_in (nI l) 4 from (nI_vi (by omega) (by decide))) ?_
          refine mm_I ok_Mo_set 114 2 205 [some (.ref 52), some (.int (nI 1)), some (.int (nI l)), some (.int (nI y)), some (.int (g 58 ((nI l).toNatClampNeg)))] [.int (nI 1)] (hp_SH ++ dy, g, r) [] rfl trivial rfl rfl (fun _ => ?_) (fun q => False.elim (absurd q (by decide)))
          refine mm_I ok_Mo_set 123 2 220 [some (.ref 52), some (.int (nI 1)), some (.int (nI l)), some (.int (nI y)), some (.int (g 58 ((nI l).toNatClampNeg)))] [.int 1, .int (nI 1)] (hp_SH ++ dy, g, r) [] rfl trivial rfl rfl (fun q => False.elim (q (by decide))) (fun _ => ?_)
          refine mm_B ok_Mo_set 126 6 (270, [some (.ref 52), some (.int (nI 1)), some (.int (nI l)), some (.int (nI y)), some (.int (g 58 ((nI l).toNatClampNeg)))], [], (hp_SH ++ dy, mm_up g 58 ((nI l).toNatClampNeg) (nI y), r)) [vp_in (nI l) 4] rfl (show vp_in (nI l) 4 from (nI_vi (by omega) (by decide))) ?_
          refine mm_B ok_Mo_set 155 1 (272, [some (.ref 52), some (.int (nI 1)), some (.int (nI l)), some (.int (nI y)), some (.int (g 58 ((nI l).toNatClampNeg)))], [.int (g 58 ((nI l).toNatClampNeg))], (hp_SH ++ dy, mm_up g 58 ((nI l).toNatClampNeg) (nI y), r)) [] rfl trivial ?_
          have hlc := nI_clamp (show l < 2 ^ 31 by omega)
          rw [(tm_f hL hl).2.2.1, hlc]
          exact mm_ri rfl (mm_at ok_Mo_set (i := 156) rfl).1 ⟨Nat.le_refl _, Nat.le_refl _⟩ (RM_g rfl (MI_set1 (dy := dy) hI hy1 (mm_up_at _ 58 _ _) (fun a j h => by rw [up_off (by omega)])) (fun a j h1 => by rw [up_off (by omega)]))
    · cases hy : ix_ A.2.1.1 o with
      | none =>
        rw [show an_set A (nI 2) o v = (-2, A) by unfold an_set; rw [show sq_ A (nI 2) o v = none by unfold sq_; rw [hx]; show (match ix_ A.2.1.1 o with | none => _ | some l => _) = _; rw [hy]]]
        refine mm_B ok_Mo_set 0 4 (6, [some (.ref 52), some (.int (nI 2)), some (.int o), some (.int v), none], [.long 4, .long 0, .long ((nI 2)).toInt64], (hp_SH ++ dy, g, r)) [] rfl trivial ?_
        refine mm_cS (as := [.long ((nI 2)).toInt64, .long 0, .long 4]) (st := []) cw_Mo_in lk_Mo_100 sx_Mo_in (mm_at ok_Mo_set (i := 4) rfl).1 (ct_Mo_in (hp_SH ++ dy, g, r) (nI 2).toInt64 0 4) (by decide) ⟨by omega, by omega⟩ (Nat.le_of_ble_eq_true rfl) (mm_vs_b (b := 77) rfl (hp_len dy)) (fun v h' hqq => ?_)
        obtain ⟨rfl, hqe⟩ := hqq; rw [hqe, in_5 (nI 2), hx]
        refine mm_I ok_Mo_set 5 0 9 [some (.ref 52), some (.int (nI 2)), some (.int o), some (.int v), none] [.int (iz_ (some 2))] (hp_SH ++ dy, g, r) [] rfl trivial rfl rfl (fun q => False.elim (one0 q)) (fun _ => ?_)
        refine mm_I ok_Mo_set 6 2 14 [some (.ref 52), some (.int (nI 2)), some (.int o), some (.int v), none] [.int 2, .int (nI 2)] (hp_SH ++ dy, g, r) [] rfl trivial rfl rfl (fun _ => ?_) (fun q => False.elim (q (by decide)))
        refine mm_B ok_Mo_set 14 2 (30, [some (.ref 52), some (.int (nI 2)), some (.int o), some (.int v), none], [.int o, .ref 52], (hp_SH ++ dy, g, r)) [] rfl trivial ?_
        refine mm_cV (as := [.int o]) (st := []) (q := 52) cw_Mo_isChild lk_Mo_121 in_Mo_isChild sl_Mo_isChild rfl rfl (mm_at ok_Mo_set (i := 16) rfl).1 (ct_Mo_isChild dy g r o) (by decide) ⟨by omega, by omega⟩ (Nat.le_of_ble_eq_true rfl) (mm_vs_b (b := 77) rfl (hp_len dy)) (fun v h' hqq => ?_)
        obtain ⟨rfl, hqe⟩ := hqq; rw [hqe]
        rw [mc_x (by omega) e14 o, hy]
        refine mm_I ok_Mo_set 17 0 33 [some (.ref 52), some (.int (nI 2)), some (.int o), some (.int v), none] [.int (iz_ none)] (hp_SH ++ dy, g, r) [] rfl trivial rfl rfl (fun q => False.elim (q rfl)) (fun _ => ?_)
        refine mm_B ok_Mo_set 18 1 (38, [some (.ref 52), some (.int (nI 2)), some (.int o), some (.int v), none], [.int (-2)], (hp_SH ++ dy, g, r)) [] rfl trivial ?_
        exact mm_ri rfl (mm_at ok_Mo_set (i := 19) rfl).1 ⟨Nat.le_refl _, Nat.le_refl _⟩ (RM_q rfl hI fr_.rf)
      | some l =>
        obtain ⟨hl, rfl⟩ := ix_some (by omega) hy
        obtain ⟨k1, k2, k3, k4, k5⟩ := hK.2.2 l hl
        obtain ⟨e6, e7, e8⟩ := tn_f hK hl
        have hs : an_set A (nI 2) (nI l) v = (match ix_ (A.2.1.2.2.1 l + 1) v with | none => (-2, A) | some y => (nI (ow_set A 2 l), nx_set A 2 l y)) := by
          have hq : sq_ A (nI 2) (nI l) v = (match ix_ (A.2.1.2.2.1 l + 1) v with | none => none | some y => some (2, l, y)) := by unfold sq_; rw [hx]; show (match ix_ A.2.1.1 (nI l) with | none => _ | some l => _) = _; rw [hy]; rfl
          unfold an_set; rw [hq]
          cases ix_ (A.2.1.2.2.1 l + 1) v with | none => rfl | some y => rfl
        rw [hs]
        clear hs
        refine mm_B ok_Mo_set 0 4 (6, [some (.ref 52), some (.int (nI 2)), some (.int (nI l)), some (.int v), none], [.long 4, .long 0, .long ((nI 2)).toInt64], (hp_SH ++ dy, g, r)) [] rfl trivial ?_
        refine mm_cS (as := [.long ((nI 2)).toInt64, .long 0, .long 4]) (st := []) cw_Mo_in lk_Mo_100 sx_Mo_in (mm_at ok_Mo_set (i := 4) rfl).1 (ct_Mo_in (hp_SH ++ dy, g, r) (nI 2).toInt64 0 4) (by decide) ⟨by omega, by omega⟩ (Nat.le_of_ble_eq_true rfl) (mm_vs_b (b := 77) rfl (hp_len dy)) (fun v h' hqq => ?_)
        obtain ⟨rfl, hqe⟩ := hqq; rw [hqe, in_5 (nI 2), hx]
        refine mm_I ok_Mo_set 5 0 9 [some (.ref 52), some (.int (nI 2)), some (.int (nI l)), some (.int v), none] [.int (iz_ (some 2))] (hp_SH ++ dy, g, r) [] rfl trivial rfl rfl (fun q => False.elim (one0 q)) (fun _ => ?_)
        refine mm_I ok_Mo_set 6 2 14 [some (.ref 52), some (.int (nI 2)), some (.int (nI l)), some (.int v), none] [.int 2, .int (nI 2)] (hp_SH ++ dy, g, r) [] rfl trivial rfl rfl (fun _ => ?_) (fun q => False.elim (q (by decide)))
        refine mm_B ok_Mo_set 14 2 (30, [some (.ref 52), some (.int (nI 2)), some (.int (nI l)), some (.int v), none], [.int (nI l), .ref 52], (hp_SH ++ dy, g, r)) [] rfl trivial ?_
        refine mm_cV (as := [.int (nI l)]) (st := []) (q := 52) cw_Mo_isChild lk_Mo_121 in_Mo_isChild sl_Mo_isChild rfl rfl (mm_at ok_Mo_set (i := 16) rfl).1 (ct_Mo_isChild dy g r (nI l)) (by decide) ⟨by omega, by omega⟩ (Nat.le_of_ble_eq_true rfl) (mm_vs_b (b := 77) rfl (hp_len dy)) (fun v h' hqq => ?_)
        obtain ⟨rfl, hqe⟩ := hqq; rw [hqe]
        rw [mc_x (by omega) e14 (nI l), hy]
        refine mm_I ok_Mo_set 17 0 33 [some (.ref 52), some (.int (nI 2)), some (.int (nI l)), some (.int v), none] [.int (iz_ (some l))] (hp_SH ++ dy, g, r) [] rfl trivial rfl rfl (fun _ => ?_) (fun q => False.elim (one0 q))
        refine mm_I ok_Mo_set 20 1 40 [some (.ref 52), some (.int (nI 2)), some (.int (nI l)), some (.int v), none] [.int (nI 2)] (hp_SH ++ dy, g, r) [] rfl trivial rfl rfl (fun _ => ?_) (fun q => False.elim (absurd q (by decide)))
        refine mm_I ok_Mo_set 28 2 57 [some (.ref 52), some (.int (nI 2)), some (.int (nI l)), some (.int v), none] [.int 1, .int (nI 2)] (hp_SH ++ dy, g, r) [] rfl trivial rfl rfl (fun _ => ?_) (fun q => False.elim (absurd q (by decide)))
        refine mm_I ok_Mo_set 42 2 77 [some (.ref 52), some (.int (nI 2)), some (.int (nI l)), some (.int v), none] [.int 2, .int (nI 2)] (hp_SH ++ dy, g, r) [] rfl trivial rfl rfl (fun q => False.elim (q (by decide))) (fun _ => ?_)
        refine mm_B ok_Mo_set 45 8 (90, [some (.ref 52), some (.int (nI 2)), some (.int (nI l)), some (.int v), none], [.long ((g 60 ((nI l).toNatClampNeg))).toInt64, .long 0, .long (v).toInt64], (hp_SH ++ dy, g, r)) [vp_in (nI l) 6] rfl (show vp_in (nI l) 6 from (nI_vi (by omega) (by decide))) ?_
        rw [e7]
        refine mm_cS (as := [.long (v).toInt64, .long 0, .long ((nI (A.2.1.2.2.1 l))).toInt64]) (st := []) cw_Mo_in lk_Mo_100 sx_Mo_in (mm_at ok_Mo_set (i := 53) rfl).1 (ct_Mo_in (hp_SH ++ dy, g, r) v.toInt64 0 (nI (A.2.1.2.2.1 l)).toInt64) (by decide) ⟨by omega, by omega⟩ (Nat.le_of_ble_eq_true rfl) (mm_vs_b (b := 77) rfl (hp_len dy)) (fun v h' hqq => ?_)
        obtain ⟨rfl, hqe⟩ := hqq; rw [hqe, in_0b (by omega) v]
        cases hv : ix_ (A.2.1.2.2.1 l + 1) v with
        | none =>
          refine mm_I ok_Mo_set 54 0 93 [some (.ref 52), some (.int (nI 2)), some (.int (nI l)), some (.int v), none] [.int (iz_ none)] (hp_SH ++ dy, g, r) [] rfl trivial rfl rfl (fun _ => ?_) (fun q => False.elim (q rfl))
          refine mm_B ok_Mo_set 77 1 (140, [some (.ref 52), some (.int (nI 2)), some (.int (nI l)), some (.int v), none], [.int (-2)], (hp_SH ++ dy, g, r)) [] rfl trivial ?_
          exact mm_ri rfl (mm_at ok_Mo_set (i := 78) rfl).1 ⟨Nat.le_refl _, Nat.le_refl _⟩ (RM_q rfl hI fr_.rf)
        | some y =>
          obtain ⟨hy1, rfl⟩ := ix_some (by omega) hv
          refine mm_I ok_Mo_set 54 0 93 [some (.ref 52), some (.int (nI 2)), some (.int (nI l)), some (.int (nI y)), none] [.int (iz_ (some y))] (hp_SH ++ dy, g, r) [] rfl trivial rfl rfl (fun q => False.elim (one0 q)) (fun _ => ?_)
          refine mm_I ok_Mo_set 55 2 98 [some (.ref 52), some (.int (nI 2)), some (.int (nI l)), some (.int (nI y)), none] [.int 3, .int (nI 2)] (hp_SH ++ dy, g, r) [] rfl trivial rfl rfl (fun _ => ?_) (fun q => False.elim (absurd q (by decide)))
          refine mm_I ok_Mo_set 68 2 121 [some (.ref 52), some (.int (nI 2)), some (.int (nI l)), some (.int (nI y)), none] [.int 4, .int (nI 2)] (hp_SH ++ dy, g, r) [] rfl trivial rfl rfl (fun _ => ?_) (fun q => False.elim (absurd q (by decide)))
          refine mm_I ok_Mo_set 79 1 142 [some (.ref 52), some (.int (nI 2)), some (.int (nI l)), some (.int (nI y)), none] [.int (nI 2)] (hp_SH ++ dy, g, r) [] rfl trivial rfl rfl (fun _ => ?_) (fun q => False.elim (absurd q (by decide)))
          refine mm_I ok_Mo_set 86 2 156 [some (.ref 52), some (.int (nI 2)), some (.int (nI l)), some (.int (nI y)), none] [.int 1, .int (nI 2)] (hp_SH ++ dy, g, r) [] rfl trivial rfl rfl (fun _ => ?_) (fun q => False.elim (absurd q (by decide)))
          refine mm_I ok_Mo_set 94 2 170 [some (.ref 52), some (.int (nI 2)), some (.int (nI l)), some (.int (nI y)), none] [.int 2, .int (nI 2)] (hp_SH ++ dy, g, r) [] rfl trivial rfl rfl (fun q => False.elim (q (by decide))) (fun _ => ?_)
          refine mm_B ok_Mo_set 97 5 (202, [some (.ref 52), some (.int (nI 2)), some (.int (nI l)), some (.int (nI y)), none], [.int (g 59 ((nI l).toNatClampNeg))], (hp_SH ++ dy, g, r)) [vp_in (nI l) 6] rfl (show vp_in (nI l) 6 from (nI_vi (by omega) (by decide))) ?_
          refine mm_I ok_Mo_set 114 2 205 [some (.ref 52), some (.int (nI 2)), some (.int (nI l)), some (.int (nI y)), some (.int (g 59 ((nI l).toNatClampNeg)))] [.int (nI 2)] (hp_SH ++ dy, g, r) [] rfl trivial rfl rfl (fun _ => ?_) (fun q => False.elim (absurd q (by decide)))
          refine mm_I ok_Mo_set 123 2 220 [some (.ref 52), some (.int (nI 2)), some (.int (nI l)), some (.int (nI y)), some (.int (g 59 ((nI l).toNatClampNeg)))] [.int 1, .int (nI 2)] (hp_SH ++ dy, g, r) [] rfl trivial rfl rfl (fun _ => ?_) (fun q => False.elim (absurd q (by decide)))
          refine mm_I ok_Mo_set 132 2 235 [some (.ref 52), some (.int (nI 2)), some (.int (nI l)), some (.int (nI y)), some (.int (g 59 ((nI l).toNatClampNeg)))] [.int 2, .int (nI 2)] (hp_SH ++ dy, g, r) [] rfl trivial rfl rfl (fun q => False.elim (q (by decide))) (fun _ => ?_)
          refine mm_B ok_Mo_set 135 6 (270, [some (.ref 52), some (.int (nI 2)), some (.int (nI l)), some (.int (nI y)), some (.int (g 59 ((nI l).toNatClampNeg)))], [], (hp_SH ++ dy, mm_up g 59 ((nI l).toNatClampNeg) (nI y), r)) [vp_in (nI l) 6] rfl (show vp_in (nI l) 6 from (nI_vi (by omega) (by decide))) ?_
          refine mm_B ok_Mo_set 155 1 (272, [some (.ref 52), some (.int (nI 2)), some (.int (nI l)), some (.int (nI y)), some (.int (g 59 ((nI l).toNatClampNeg)))], [.int (g 59 ((nI l).toNatClampNeg))], (hp_SH ++ dy, mm_up g 59 ((nI l).toNatClampNeg) (nI y), r)) [] rfl trivial ?_
          have hlc := nI_clamp (show l < 2 ^ 31 by omega)
          rw [(tn_f hK hl).1, hlc]
          exact mm_ri rfl (mm_at ok_Mo_set (i := 156) rfl).1 ⟨Nat.le_refl _, Nat.le_refl _⟩ (RM_g rfl (MI_set2 (dy := dy) hI (by omega) (mm_up_at _ 59 _ _) (fun a j h => by rw [up_off (by omega)])) (fun a j h1 => by rw [up_off (by omega)]))
    · cases hy : ix_ A.2.1.1 o with
      | none =>
        rw [show an_set A (nI 3) o v = (-2, A) by unfold an_set; rw [show sq_ A (nI 3) o v = none by unfold sq_; rw [hx]; show (match ix_ A.2.1.1 o with | none => _ | some l => _) = _; rw [hy]]]
        refine mm_B ok_Mo_set 0 4 (6, [some (.ref 52), some (.int (nI 3)), some (.int o), some (.int v), none], [.long 4, .long 0, .long ((nI 3)).toInt64], (hp_SH ++ dy, g, r)) [] rfl trivial ?_
        refine mm_cS (as := [.long ((nI 3)).toInt64, .long 0, .long 4]) (st := []) cw_Mo_in lk_Mo_100 sx_Mo_in (mm_at ok_Mo_set (i := 4) rfl).1 (ct_Mo_in (hp_SH ++ dy, g, r) (nI 3).toInt64 0 4) (by decide) ⟨by omega, by omega⟩ (Nat.le_of_ble_eq_true rfl) (mm_vs_b (b := 77) rfl (hp_len dy)) (fun v h' hqq => ?_)
        obtain ⟨rfl, hqe⟩ := hqq; rw [hqe, in_5 (nI 3), hx]
        refine mm_I ok_Mo_set 5 0 9 [some (.ref 52), some (.int (nI 3)), some (.int o), some (.int v), none] [.int (iz_ (some 3))] (hp_SH ++ dy, g, r) [] rfl trivial rfl rfl (fun q => False.elim (one0 q)) (fun _ => ?_)
        refine mm_I ok_Mo_set 6 2 14 [some (.ref 52), some (.int (nI 3)), some (.int o), some (.int v), none] [.int 2, .int (nI 3)] (hp_SH ++ dy, g, r) [] rfl trivial rfl rfl (fun _ => ?_) (fun q => False.elim (q (by decide)))
        refine mm_B ok_Mo_set 14 2 (30, [some (.ref 52), some (.int (nI 3)), some (.int o), some (.int v), none], [.int o, .ref 52], (hp_SH ++ dy, g, r)) [] rfl trivial ?_
        refine mm_cV (as := [.int o]) (st := []) (q := 52) cw_Mo_isChild lk_Mo_121 in_Mo_isChild sl_Mo_isChild rfl rfl (mm_at ok_Mo_set (i := 16) rfl).1 (ct_Mo_isChild dy g r o) (by decide) ⟨by omega, by omega⟩ (Nat.le_of_ble_eq_true rfl) (mm_vs_b (b := 77) rfl (hp_len dy)) (fun v h' hqq => ?_)
        obtain ⟨rfl, hqe⟩ := hqq; rw [hqe]
        rw [mc_x (by omega) e14 o, hy]
        refine mm_I ok_Mo_set 17 0 33 [some (.ref 52), some (.int (nI 3)), some (.int o), some (.int v), none] [.int (iz_ none)] (hp_SH ++ dy, g, r) [] rfl trivial rfl rfl (fun q => False.elim (q rfl)) (fun _ => ?_)
        refine mm_B ok_Mo_set 18 1 (38, [some (.ref 52), some (.int (nI 3)), some (.int o), some (.int v), none], [.int (-2)], (hp_SH ++ dy, g, r)) [] rfl trivial ?_
        exact mm_ri rfl (mm_at ok_Mo_set (i := 19) rfl).1 ⟨Nat.le_refl _, Nat.le_refl _⟩ (RM_q rfl hI fr_.rf)
      | some l =>
        obtain ⟨hl, rfl⟩ := ix_some (by omega) hy
        obtain ⟨k1, k2, k3, k4, k5⟩ := hK.2.2 l hl
        obtain ⟨e6, e7, e8⟩ := tn_f hK hl
        have hs : an_set A (nI 3) (nI l) v = (match (if v < nI (A.2.1.2.1 l) then none else ix_ 6 v) with | none => (-2, A) | some y => (nI (ow_set A 3 l), nx_set A 3 l y)) := by
          have hq : sq_ A (nI 3) (nI l) v = (match (if v < nI (A.2.1.2.1 l) then none else ix_ 6 v) with | none => none | some y => some (3, l, y)) := by unfold sq_; rw [hx]; show (match ix_ A.2.1.1 (nI l) with | none => _ | some l => _) = _; rw [hy]; rfl
          unfold an_set; rw [hq]
          cases (if v < nI (A.2.1.2.1 l) then none else ix_ 6 v) with | none => rfl | some y => rfl
        rw [hs]
        clear hs
        refine mm_B ok_Mo_set 0 4 (6, [some (.ref 52), some (.int (nI 3)), some (.int (nI l)), some (.int v), none], [.long 4, .long 0, .long ((nI 3)).toInt64], (hp_SH ++ dy, g, r)) [] rfl trivial ?_
        refine mm_cS (as := [.long ((nI 3)).toInt64, .long 0, .long 4]) (st := []) cw_Mo_in lk_Mo_100 sx_Mo_in (mm_at ok_Mo_set (i := 4) rfl).1 (ct_Mo_in (hp_SH ++ dy, g, r) (nI 3).toInt64 0 4) (by decide) ⟨by omega, by omega⟩ (Nat.le_of_ble_eq_true rfl) (mm_vs_b (b := 77) rfl (hp_len dy)) (fun v h' hqq => ?_)
        obtain ⟨rfl, hqe⟩ := hqq; rw [hqe, in_5 (nI 3), hx]
        refine mm_I ok_Mo_set 5 0 9 [some (.ref 52), some (.int (nI 3)), some (.int (nI l)), some (.int v), none] [.int (iz_ (some 3))] (hp_SH ++ dy, g, r) [] rfl trivial rfl rfl (fun q => False.elim (one0 q)) (fun _ => ?_)
        refine mm_I ok_Mo_set 6 2 14 [some (.ref 52), some (.int (nI 3)), some (.int (nI l)), some (.int v), none] [.int 2, .int (nI 3)] (hp_SH ++ dy, g, r) [] rfl trivial rfl rfl (fun _ => ?_) (fun q => False.elim (q (by decide)))
        refine mm_B ok_Mo_set 14 2 (30, [some (.ref 52), some (.int (nI 3)), some (.int (nI l)), some (.int v), none], [.int (nI l), .ref 52], (hp_SH ++ dy, g, r)) [] rfl trivial ?_
        refine mm_cV (as := [.int (nI l)]) (st := []) (q := 52) cw_Mo_isChild lk_Mo_121 in_Mo_isChild sl_Mo_isChild rfl rfl (mm_at ok_Mo_set (i := 16) rfl).1 (ct_Mo_isChild dy g r (nI l)) (by decide) ⟨by omega, by omega⟩ (Nat.le_of_ble_eq_true rfl) (mm_vs_b (b := 77) rfl (hp_len dy)) (fun v h' hqq => ?_)
        obtain ⟨rfl, hqe⟩ := hqq; rw [hqe]
        rw [mc_x (by omega) e14 (nI l), hy]
        refine mm_I ok_Mo_set 17 0 33 [some (.ref 52), some (.int (nI 3)), some (.int (nI l)), some (.int v), none] [.int (iz_ (some l))] (hp_SH ++ dy, g, r) [] rfl trivial rfl rfl (fun _ => ?_) (fun q => False.elim (one0 q))
        refine mm_I ok_Mo_set 20 1 40 [some (.ref 52), some (.int (nI 3)), some (.int (nI l)), some (.int v), none] [.int (nI 3)] (hp_SH ++ dy, g, r) [] rfl trivial rfl rfl (fun _ => ?_) (fun q => False.elim (absurd q (by decide)))
        refine mm_I ok_Mo_set 28 2 57 [some (.ref 52), some (.int (nI 3)), some (.int (nI l)), some (.int v), none] [.int 1, .int (nI 3)] (hp_SH ++ dy, g, r) [] rfl trivial rfl rfl (fun _ => ?_) (fun q => False.elim (absurd q (by decide)))
        refine mm_I ok_Mo_set 42 2 77 [some (.ref 52), some (.int (nI 3)), some (.int (nI l)), some (.int v), none] [.int 2, .int (nI 3)] (hp_SH ++ dy, g, r) [] rfl trivial rfl rfl (fun _ => ?_) (fun q => False.elim (absurd q (by decide)))
        refine mm_I ok_Mo_set 55 2 98 [some (.ref 52), some (.int (nI 3)), some (.int (nI l)), some (.int v), none] [.int 3, .int (nI 3)] (hp_SH ++ dy, g, r) [] rfl trivial rfl rfl (fun q => False.elim (q (by decide))) (fun _ => ?_)
        refine mm_B ok_Mo_set 58 8 (113, [some (.ref 52), some (.int (nI 3)), some (.int (nI l)), some (.int v), none], [.long 5, .long ((g 59 ((nI l).toNatClampNeg))).toInt64, .long (v).toInt64], (hp_SH ++ dy, g, r)) [vp_in (nI l) 6] rfl (show vp_in (nI l) 6 from (nI_vi (by omega) (by decide))) ?_
        rw [e6]
        refine mm_cS (as := [.long (v).toInt64, .long ((nI (A.2.1.2.1 l))).toInt64, .long 5]) (st := []) cw_Mo_in lk_Mo_100 sx_Mo_in (mm_at ok_Mo_set (i := 66) rfl).1 (ct_Mo_in (hp_SH ++ dy, g, r) v.toInt64 (nI (A.2.1.2.1 l)).toInt64 5) (by decide) ⟨by omega, by omega⟩ (Nat.le_of_ble_eq_true rfl) (mm_vs_b (b := 77) rfl (hp_len dy)) (fun v h' hqq => ?_)
        obtain ⟨rfl, hqe⟩ := hqq; rw [hqe, in_a5 (by omega) v]
        cases hv : if v < nI (A.2.1.2.1 l) then none else ix_ 6 v with
        | none =>
          refine mm_I ok_Mo_set 67 0 116 [some (.ref 52), some (.int (nI 3)), some (.int (nI l)), some (.int v), none] [.int (iz_ none)] (hp_SH ++ dy, g, r) [] rfl trivial rfl rfl (fun _ => ?_) (fun q => False.elim (q rfl))
          refine mm_B ok_Mo_set 77 1 (140, [some (.ref 52), some (.int (nI 3)), some (.int (nI l)), some (.int v), none], [.int (-2)], (hp_SH ++ dy, g, r)) [] rfl trivial ?_
          exact mm_ri rfl (mm_at ok_Mo_set (i := 78) rfl).1 ⟨Nat.le_refl _, Nat.le_refl _⟩ (RM_q rfl hI fr_.rf)
        | some y =>
          obtain ⟨hn, hv'⟩ := vy3 hv
          obtain ⟨hy1, rfl⟩ := ix_some (by decide) hv'
          have hn := (nI_leI (by omega) (by omega)).mp (Int32.not_lt.mp hn)
          refine mm_I ok_Mo_set 67 0 116 [some (.ref 52), some (.int (nI 3)), some (.int (nI l)), some (.int (nI y)), none] [.int (iz_ (some y))] (hp_SH ++ dy, g, r) [] rfl trivial rfl rfl (fun q => False.elim (one0 q)) (fun _ => ?_)
          refine mm_I ok_Mo_set 68 2 121 [some (.ref 52), some (.int (nI 3)), some (.int (nI l)), some (.int (nI y)), none] [.int 4, .int (nI 3)] (hp_SH ++ dy, g, r) [] rfl trivial rfl rfl (fun _ => ?_) (fun q => False.elim (absurd q (by decide)))
          refine mm_I ok_Mo_set 79 1 142 [some (.ref 52), some (.int (nI 3)), some (.int (nI l)), some (.int (nI y)), none] [.int (nI 3)] (hp_SH ++ dy, g, r) [] rfl trivial rfl rfl (fun _ => ?_) (fun q => False.elim (absurd q (by decide)))
          refine mm_I ok_Mo_set 86 2 156 [some (.ref 52), some (.int (nI 3)), some (.int (nI l)), some (.int (nI y)), none] [.int 1, .int (nI 3)] (hp_SH ++ dy, g, r) [] rfl trivial rfl rfl (fun _ => ?_) (fun q => False.elim (absurd q (by decide)))
          refine mm_I ok_Mo_set 94 2 170 [some (.ref 52), some (.int (nI 3)), some (.int (nI l)), some (.int (nI y)), none] [.int 2, .int (nI 3)] (hp_SH ++ dy, g, r) [] rfl trivial rfl rfl (fun _ => ?_) (fun q => False.elim (absurd q (by decide)))
          refine mm_I ok_Mo_set 102 2 184 [some (.ref 52), some (.int (nI 3)), some (.int (nI l)), some (.int (nI y)), none] [.int 3, .int (nI 3)] (hp_SH ++ dy, g, r) [] rfl trivial rfl rfl (fun q => False.elim (q (by decide))) (fun _ => ?_)
          refine mm_B ok_Mo_set 105 5 (202, [some (.ref 52), some (.int (nI 3)), some (.int (nI l)), some (.int (nI y)), none], [.int (g 60 ((nI l).toNatClampNeg))], (hp_SH ++ dy, g, r)) [vp_in (nI l) 6] rfl (show vp_in (nI l) 6 from (nI_vi (by omega) (by decide))) ?_
          refine mm_I ok_Mo_set 114 2 205 [some (.ref 52), some (.int (nI 3)), some (.int (nI l)), some (.int (nI y)), some (.int (g 60 ((nI l).toNatClampNeg)))] [.int (nI 3)] (hp_SH ++ dy, g, r) [] rfl trivial rfl rfl (fun _ => ?_) (fun q => False.elim (absurd q (by decide)))
          refine mm_I ok_Mo_set 123 2 220 [some (.ref 52), some (.int (nI 3)), some (.int (nI l)), some (.int (nI y)), some (.int (g 60 ((nI l).toNatClampNeg)))] [.int 1, .int (nI 3)] (hp_SH ++ dy, g, r) [] rfl trivial rfl rfl (fun _ => ?_) (fun q => False.elim (absurd q (by decide)))
          refine mm_I ok_Mo_set 132 2 235 [some (.ref 52), some (.int (nI 3)), some (.int (nI l)), some (.int (nI y)), some (.int (g 60 ((nI l).toNatClampNeg)))] [.int 2, .int (nI 3)] (hp_SH ++ dy, g, r) [] rfl trivial rfl rfl (fun _ => ?_) (fun q => False.elim (absurd q (by decide)))
          refine mm_I ok_Mo_set 141 2 250 [some (.ref 52), some (.int (nI 3)), some (.int (nI l)), some (.int (nI y)), some (.int (g 60 ((nI l).toNatClampNeg)))] [.int 3, .int (nI 3)] (hp_SH ++ dy, g, r) [] rfl trivial rfl rfl (fun q => False.elim (q (by decide))) (fun _ => ?_)
          refine mm_B ok_Mo_set 144 6 (270, [some (.ref 52), some (.int (nI 3)), some (.int (nI l)), some (.int (nI y)), some (.int (g 60 ((nI l).toNatClampNeg)))], [], (hp_SH ++ dy, mm_up g 60 ((nI l).toNatClampNeg) (nI y), r)) [vp_in (nI l) 6] rfl (show vp_in (nI l) 6 from (nI_vi (by omega) (by decide))) ?_
          refine mm_B ok_Mo_set 155 1 (272, [some (.ref 52), some (.int (nI 3)), some (.int (nI l)), some (.int (nI y)), some (.int (g 60 ((nI l).toNatClampNeg)))], [.int (g 60 ((nI l).toNatClampNeg))], (hp_SH ++ dy, mm_up g 60 ((nI l).toNatClampNeg) (nI y), r)) [] rfl trivial ?_
          have hlc := nI_clamp (show l < 2 ^ 31 by omega)
          rw [(tn_f hK hl).2.1, hlc]
          exact mm_ri rfl (mm_at ok_Mo_set (i := 156) rfl).1 ⟨Nat.le_refl _, Nat.le_refl _⟩ (RM_g rfl (MI_set3 (dy := dy) hI ⟨hn, by omega⟩ (mm_up_at _ 60 _ _) (fun a j h => by rw [up_off (by omega)])) (fun a j h1 => by rw [up_off (by omega)]))
    · cases hy : ix_ A.2.1.1 o with
      | none =>
        rw [show an_set A (nI 4) o v = (-2, A) by unfold an_set; rw [show sq_ A (nI 4) o v = none by unfold sq_; rw [hx]; show (match ix_ A.2.1.1 o with | none => _ | some l => _) = _; rw [hy]]]
        refine mm_B ok_Mo_set 0 4 (6, [some (.ref 52), some (.int (nI 4)), some (.int o), some (.int v), none], [.long 4, .long 0, .long ((nI 4)).toInt64], (hp_SH ++ dy, g, r)) [] rfl trivial ?_
        refine mm_cS (as := [.long ((nI 4)).toInt64, .long 0, .long 4]) (st := []) cw_Mo_in lk_Mo_100 sx_Mo_in (mm_at ok_Mo_set (i := 4) rfl).1 (ct_Mo_in (hp_SH ++ dy, g, r) (nI 4).toInt64 0 4) (by decide) ⟨by omega, by omega⟩ (Nat.le_of_ble_eq_true rfl) (mm_vs_b (b := 77) rfl (hp_len dy)) (fun v h' hqq => ?_)
        obtain ⟨rfl, hqe⟩ := hqq; rw [hqe, in_5 (nI 4), hx]
        refine mm_I ok_Mo_set 5 0 9 [some (.ref 52), some (.int (nI 4)), some (.int o), some (.int v), none] [.int (iz_ (some 4))] (hp_SH ++ dy, g, r) [] rfl trivial rfl rfl (fun q => False.elim (one0 q)) (fun _ => ?_)
        refine mm_I ok_Mo_set 6 2 14 [some (.ref 52), some (.int (nI 4)), some (.int o), some (.int v), none] [.int 2, .int (nI 4)] (hp_SH ++ dy, g, r) [] rfl trivial rfl rfl (fun _ => ?_) (fun q => False.elim (q (by decide)))
        refine mm_B ok_Mo_set 14 2 (30, [some (.ref 52), some (.int (nI 4)), some (.int o), some (.int v), none], [.int o, .ref 52], (hp_SH ++ dy, g, r)) [] rfl trivial ?_
        refine mm_cV (as := [.int o]) (st := []) (q := 52) cw_Mo_isChild lk_Mo_121 in_Mo_isChild sl_Mo_isChild rfl rfl (mm_at ok_Mo_set (i := 16) rfl).1 (ct_Mo_isChild dy g r o) (by decide) ⟨by omega, by omega⟩ (Nat.le_of_ble_eq_true rfl) (mm_vs_b (b := 77) rfl (hp_len dy)) (fun v h' hqq => ?_)
        obtain ⟨rfl, hqe⟩ := hqq; rw [hqe]
        rw [mc_x (by omega) e14 o, hy]
        refine mm_I ok_Mo_set 17 0 33 [some (.ref 52), some (.int (nI 4)), some (.int o), some (.int v), none] [.int (iz_ none)] (hp_SH ++ dy, g, r) [] rfl trivial rfl rfl (fun q => False.elim (q rfl)) (fun _ => ?_)
        refine mm_B ok_Mo_set 18 1 (38, [some (.ref 52), some (.int (nI 4)), some (.int o), some (.int v), none], [.int (-2)], (hp_SH ++ dy, g, r)) [] rfl trivial ?_
        exact mm_ri rfl (mm_at ok_Mo_set (i := 19) rfl).1 ⟨Nat.le_refl _, Nat.le_refl _⟩ (RM_q rfl hI fr_.rf)
      | some l =>
        obtain ⟨hl, rfl⟩ := ix_some (by omega) hy
        obtain ⟨k1, k2, k3, k4, k5⟩ := hK.2.2 l hl
        obtain ⟨e6, e7, e8⟩ := tn_f hK hl
        have hs : an_set A (nI 4) (nI l) v = (match ag_ v with | none => (-2, A) | some y => (nI (ow_set A 4 l), nx_set A 4 l y)) := by
          have hq : sq_ A (nI 4) (nI l) v = (match ag_ v with | none => none | some y => some (4, l, y)) := by unfold sq_; rw [hx]; show (match ix_ A.2.1.1 (nI l) with | none => _ | some l => _) = _; rw [hy]; rfl
          unfold an_set; rw [hq]
          cases ag_ v with | none => rfl | some y => rfl
        rw [hs]
        clear hs
        refine mm_B ok_Mo_set 0 4 (6, [some (.ref 52), some (.int (nI 4)), some (.int (nI l)), some (.int v), none], [.long 4, .long 0, .long ((nI 4)).toInt64], (hp_SH ++ dy, g, r)) [] rfl trivial ?_
        refine mm_cS (as := [.long ((nI 4)).toInt64, .long 0, .long 4]) (st := []) cw_Mo_in lk_Mo_100 sx_Mo_in (mm_at ok_Mo_set (i := 4) rfl).1 (ct_Mo_in (hp_SH ++ dy, g, r) (nI 4).toInt64 0 4) (by decide) ⟨by omega, by omega⟩ (Nat.le_of_ble_eq_true rfl) (mm_vs_b (b := 77) rfl (hp_len dy)) (fun v h' hqq => ?_)
        obtain ⟨rfl, hqe⟩ := hqq; rw [hqe, in_5 (nI 4), hx]
        refine mm_I ok_Mo_set 5 0 9 [some (.ref 52), some (.int (nI 4)), some (.int (nI l)), some (.int v), none] [.int (iz_ (some 4))] (hp_SH ++ dy, g, r) [] rfl trivial rfl rfl (fun q => False.elim (one0 q)) (fun _ => ?_)
        refine mm_I ok_Mo_set 6 2 14 [some (.ref 52), some (.int (nI 4)), some (.int (nI l)), some (.int v), none] [.int 2, .int (nI 4)] (hp_SH ++ dy, g, r) [] rfl trivial rfl rfl (fun _ => ?_) (fun q => False.elim (q (by decide)))
        refine mm_B ok_Mo_set 14 2 (30, [some (.ref 52), some (.int (nI 4)), some (.int (nI l)), some (.int v), none], [.int (nI l), .ref 52], (hp_SH ++ dy, g, r)) [] rfl trivial ?_
        refine mm_cV (as := [.int (nI l)]) (st := []) (q := 52) cw_Mo_isChild lk_Mo_121 in_Mo_isChild sl_Mo_isChild rfl rfl (mm_at ok_Mo_set (i := 16) rfl).1 (ct_Mo_isChild dy g r (nI l)) (by decide) ⟨by omega, by omega⟩ (Nat.le_of_ble_eq_true rfl) (mm_vs_b (b := 77) rfl (hp_len dy)) (fun v h' hqq => ?_)
        obtain ⟨rfl, hqe⟩ := hqq; rw [hqe]
        rw [mc_x (by omega) e14 (nI l), hy]
        refine mm_I ok_Mo_set 17 0 33 [some (.ref 52), some (.int (nI 4)), some (.int (nI l)), some (.int v), none] [.int (iz_ (some l))] (hp_SH ++ dy, g, r) [] rfl trivial rfl rfl (fun _ => ?_) (fun q => False.elim (one0 q))
        refine mm_I ok_Mo_set 20 1 40 [some (.ref 52), some (.int (nI 4)), some (.int (nI l)), some (.int v), none] [.int (nI 4)] (hp_SH ++ dy, g, r) [] rfl trivial rfl rfl (fun _ => ?_) (fun q => False.elim (absurd q (by decide)))
        refine mm_I ok_Mo_set 28 2 57 [some (.ref 52), some (.int (nI 4)), some (.int (nI l)), some (.int v), none] [.int 1, .int (nI 4)] (hp_SH ++ dy, g, r) [] rfl trivial rfl rfl (fun _ => ?_) (fun q => False.elim (absurd q (by decide)))
        refine mm_I ok_Mo_set 42 2 77 [some (.ref 52), some (.int (nI 4)), some (.int (nI l)), some (.int v), none] [.int 2, .int (nI 4)] (hp_SH ++ dy, g, r) [] rfl trivial rfl rfl (fun _ => ?_) (fun q => False.elim (absurd q (by decide)))
        refine mm_I ok_Mo_set 55 2 98 [some (.ref 52), some (.int (nI 4)), some (.int (nI l)), some (.int v), none] [.int 3, .int (nI 4)] (hp_SH ++ dy, g, r) [] rfl trivial rfl rfl (fun _ => ?_) (fun q => False.elim (absurd q (by decide)))
        refine mm_I ok_Mo_set 68 2 121 [some (.ref 52), some (.int (nI 4)), some (.int (nI l)), some (.int v), none] [.int 4, .int (nI 4)] (hp_SH ++ dy, g, r) [] rfl trivial rfl rfl (fun q => False.elim (q (by decide))) (fun _ => ?_)
        refine mm_B ok_Mo_set 71 4 (132, [some (.ref 52), some (.int (nI 4)), some (.int (nI l)), some (.int v), none], [.long 14, .long 5, .long (v).toInt64], (hp_SH ++ dy, g, r)) [] rfl trivial ?_
        refine mm_cS (as := [.long (v).toInt64, .long 5, .long 14]) (st := []) cw_Mo_in lk_Mo_100 sx_Mo_in (mm_at ok_Mo_set (i := 75) rfl).1 (ct_Mo_in (hp_SH ++ dy, g, r) v.toInt64 5 14) (by decide) ⟨by omega, by omega⟩ (Nat.le_of_ble_eq_true rfl) (mm_vs_b (b := 77) rfl (hp_len dy)) (fun v h' hqq => ?_)
        obtain ⟨rfl, hqe⟩ := hqq; rw [hqe, ag_in v]
        cases hv : ag_ v with
        | none =>
          refine mm_I ok_Mo_set 76 0 135 [some (.ref 52), some (.int (nI 4)), some (.int (nI l)), some (.int v), none] [.int (iz_ none)] (hp_SH ++ dy, g, r) [] rfl trivial rfl rfl (fun q => False.elim (q rfl)) (fun _ => ?_)
          refine mm_B ok_Mo_set 77 1 (140, [some (.ref 52), some (.int (nI 4)), some (.int (nI l)), some (.int v), none], [.int (-2)], (hp_SH ++ dy, g, r)) [] rfl trivial ?_
          exact mm_ri rfl (mm_at ok_Mo_set (i := 78) rfl).1 ⟨Nat.le_refl _, Nat.le_refl _⟩ (RM_q rfl hI fr_.rf)
        | some y =>
          obtain ⟨rfl, hy1, -⟩ := ag_some hv
          refine mm_I ok_Mo_set 76 0 135 [some (.ref 52), some (.int (nI 4)), some (.int (nI l)), some (.int (nI y)), none] [.int (iz_ (some y))] (hp_SH ++ dy, g, r) [] rfl trivial rfl rfl (fun _ => ?_) (fun q => False.elim (one0 q))
          refine mm_I ok_Mo_set 79 1 142 [some (.ref 52), some (.int (nI 4)), some (.int (nI l)), some (.int (nI y)), none] [.int (nI 4)] (hp_SH ++ dy, g, r) [] rfl trivial rfl rfl (fun _ => ?_) (fun q => False.elim (absurd q (by decide)))
          refine mm_I ok_Mo_set 86 2 156 [some (.ref 52), some (.int (nI 4)), some (.int (nI l)), some (.int (nI y)), none] [.int 1, .int (nI 4)] (hp_SH ++ dy, g, r) [] rfl trivial rfl rfl (fun _ => ?_) (fun q => False.elim (absurd q (by decide)))
          refine mm_I ok_Mo_set 94 2 170 [some (.ref 52), some (.int (nI 4)), some (.int (nI l)), some (.int (nI y)), none] [.int 2, .int (nI 4)] (hp_SH ++ dy, g, r) [] rfl trivial rfl rfl (fun _ => ?_) (fun q => False.elim (absurd q (by decide)))
          refine mm_I ok_Mo_set 102 2 184 [some (.ref 52), some (.int (nI 4)), some (.int (nI l)), some (.int (nI y)), none] [.int 3, .int (nI 4)] (hp_SH ++ dy, g, r) [] rfl trivial rfl rfl (fun _ => ?_) (fun q => False.elim (absurd q (by decide)))
          refine mm_I ok_Mo_set 110 6 205 [some (.ref 52), some (.int (nI 4)), some (.int (nI l)), some (.int (nI y)), some (.int (g 61 ((nI l).toNatClampNeg)))] [.int (nI 4)] (hp_SH ++ dy, g, r) [vp_in (nI l) 6] rfl (show vp_in (nI l) 6 from (nI_vi (by omega) (by decide))) rfl rfl (fun _ => ?_) (fun q => False.elim (absurd q (by decide)))
          refine mm_I ok_Mo_set 123 2 220 [some (.ref 52), some (.int (nI 4)), some (.int (nI l)), some (.int (nI y)), some (.int (g 61 ((nI l).toNatClampNeg)))] [.int 1, .int (nI 4)] (hp_SH ++ dy, g, r) [] rfl trivial rfl rfl (fun _ => ?_) (fun q => False.elim (absurd q (by decide)))
          refine mm_I ok_Mo_set 132 2 235 [some (.ref 52), some (.int (nI 4)), some (.int (nI l)), some (.int (nI y)), some (.int (g 61 ((nI l).toNatClampNeg)))] [.int 2, .int (nI 4)] (hp_SH ++ dy, g, r) [] rfl trivial rfl rfl (fun _ => ?_) (fun q => False.elim (absurd q (by decide)))
          refine mm_I ok_Mo_set 141 2 250 [some (.ref 52), some (.int (nI 4)), some (.int (nI l)), some (.int (nI y)), some (.int (g 61 ((nI l).toNatClampNeg)))] [.int 3, .int (nI 4)] (hp_SH ++ dy, g, r) [] rfl trivial rfl rfl (fun _ => ?_) (fun q => False.elim (absurd q (by decide)))
          refine mm_B ok_Mo_set 150 6 (272, [some (.ref 52), some (.int (nI 4)), some (.int (nI l)), some (.int (nI y)), some (.int (g 61 ((nI l).toNatClampNeg)))], [.int (g 61 ((nI l).toNatClampNeg))], (hp_SH ++ dy, mm_up g 61 ((nI l).toNatClampNeg) (nI y), r)) [vp_in (nI l) 6] rfl (show vp_in (nI l) 6 from (nI_vi (by omega) (by decide))) ?_
          have hlc := nI_clamp (show l < 2 ^ 31 by omega)
          rw [(tn_f hK hl).2.2, hlc]
          exact mm_ri rfl (mm_at ok_Mo_set (i := 156) rfl).1 ⟨Nat.le_refl _, Nat.le_refl _⟩ (RM_g rfl (MI_set4 (dy := dy) hI hy1 (mm_up_at _ 61 _ _) (fun a j h => by rw [up_off (by omega)])) (fun a j h1 => by rw [up_off (by omega)]))

