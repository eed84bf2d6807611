/-! ===== what each part of the state rests on ===== -/
def ar_b : Option mm_Sh → Bool
  | some (.inl a) => decide (a.1 < 2)
  | _ => true
theorem ar_k {dy : List mm_Sh} {k : Nat} {a : Nat × Nat} (hk : k < 77) (h : (hp_SH ++ dy)[k]? = some (.inl a)) (ha : ¬ a.1 < 2) : k = 11 ∨ k = 12 ∨ k = 45 := by
  rw [hp_at dy hk] at h
  have hd : ∀ k, k < 77 → (k = 11 ∨ k = 12 ∨ k = 45) ∨ ar_b (hp_SH[k]?) = true := by decide +kernel
  rcases hd k hk with h1 | h1
  · exact h1
  · rw [h] at h1
    exact absurd (of_decide_eq_true h1) ha
theorem wf_P {dy : List mm_Sh} {P P' : Nat → Nat → Int32} {r r' : (Nat → Nat → Int64) × Nat × (Nat → Int32)} (hw : mm_wf (hp_SH ++ dy, P, r)) (h : ∀ k j, (k = 11 ∨ k = 12 ∨ k = 45 ∨ 76 < k) → P' k j = P k j) : mm_wf (hp_SH ++ dy, P', r') := by
  refine wf_g hw (fun k a hk ha => ?_)
  funext j
  refine h k j ?_
  by_cases h77 : k < 77
  · rcases ar_k h77 hk ha with e | e | e
    · exact Or.inl e
    · exact Or.inr (Or.inl e)
    · exact Or.inr (Or.inr (Or.inl e))
  · exact Or.inr (Or.inr (Or.inr (by omega)))
section
variable {dy : List mm_Sh} {P P' : Nat → Nat → Int32}
theorem rl_L_fr {T : sp_T} (h : rl_L T P) (hF : ∀ k j, ((k = 2 ∧ j = 0) ∨ k = 3 ∨ k = 4 ∨ k = 5 ∨ k = 12) → P' k j = P k j) : rl_L T P' := by
  obtain ⟨l1, l2, l3, l4⟩ := h
  refine ⟨by rw [hF 2 0 (by simp)]; exact l1, l2, fun l hl => ?_, fun j hj => by rw [hF 12 j (by simp)]; exact l4 j hj⟩
  rw [hF 3 l (by simp), hF 4 l (by simp), hF 5 l (by simp)]
  exact l3 l hl
theorem rl_C_fr {K : sp_K} (h : rl_C K P) (hF : ∀ k j, ((k = 2 ∧ j = 1) ∨ k = 6 ∨ k = 7 ∨ k = 8) → P' k j = P k j) : rl_C K P' := by
  obtain ⟨k1, k2, k3⟩ := h
  refine ⟨by rw [hF 2 1 (by simp)]; exact k1, k2, fun c hc => ?_⟩
  rw [hF 6 c (by simp), hF 7 c (by simp), hF 8 c (by simp)]
  exact k3 c hc
theorem cP_fr {p : sP} (h : cP P p) (hF : ∀ k j, (k = 9 ∨ k = 10) → P' k j = P k j) : cP P' p := fun b hb => by
  rw [hF 9 b (by simp), hF 10 b (by simp)]
  exact h b hb
theorem rt_A_fr {a : Nat} {c : List Int32} (h : rt_A dy P a c) (hF : ∀ j, P' a j = P a j) : rt_A dy P' a c := by
  obtain ⟨d1, d2, d3, d4⟩ := h
  exact ⟨d1, d2, d3, fun i hi => by rw [hF]; exact d4 i hi⟩
theorem cX_fr {x : sX} (h : cX dy P x) (hF : ∀ k j, ((k = 1 ∧ j = 2) ∨ (k = 2 ∧ j = 2) ∨ k = 11 ∨ (15 < k ∧ k < 19) ∨ 76 < k) → P' k j = P k j) : cX dy P' x := by
  obtain ⟨h1, h2, h3, h4, h5⟩ := h
  refine ⟨by rw [hF 1 2 (by simp)]; exact h1, h2, by rw [hF 2 2 (by simp)]; exact h3, h4, fun t ht => ?_⟩
  obtain ⟨c, c1, c2, a0, a1, a2, c3, ca, d0, d1, d2⟩ := h5 t ht
  have hne : ∀ a, a = a0 ∨ a = a1 ∨ a = a2 → ∀ j, P' a j = P a j := fun a ha j => hF a j (by have := ca a ha; omega)
  exact ⟨c, by rw [hF 11 t (by simp)]; exact c1, c2, a0, a1, a2, c3, ca, rt_A_fr d0 (hne a0 (Or.inl rfl)), rt_A_fr d1 (hne a1 (Or.inr (Or.inl rfl))), rt_A_fr d2 (hne a2 (Or.inr (Or.inr rfl)))⟩
theorem cB_fr {b : Nat × (Nat → Int32)} (h : cB P b) (hF : ∀ k j, ((k = 31 ∧ j = 1) ∨ k = 32) → P' k j = P k j) : cB P' b := by
  obtain ⟨h1, h2, h3⟩ := h
  exact ⟨by rw [hF 31 1 (by simp)]; exact h1, h2, fun j hj => by rw [hF 32 j (by simp)]; exact h3 j hj⟩
theorem cS_fr {s : sS} (h : cS P s) (hF : ∀ k j, (44 < k ∧ k < 52) → P' k j = P k j) : cS P' s := by
  intro k hk
  obtain ⟨h1, h2⟩ := h k hk
  refine ⟨by rw [hF 45 k (by omega)]; exact h1, ?_⟩
  cases hs : s k with
  | none =>
    rw [hs] at h2
    show P' 51 k = -1
    rw [hF 51 k (by omega)]
    exact h2
  | some q =>
    rw [hs] at h2
    obtain ⟨a1, a2, a3, a4, a5⟩ := h2
    exact ⟨by rw [hF 51 k (by omega)]; exact a1, a2, by rw [hF 50 k (by omega)]; exact a3, a4, fun i hi => by rw [hF (46 + k) i (by omega)]; exact a5 i hi⟩
theorem cI_fr {T : sp_T} {tc : Nat} {m : sI} (h : cI P T tc m) (hF : ∀ k j, ((k = 0 ∧ j = 4) ∨ (33 < k ∧ k < 43)) → P' k j = P k j) {T' : sp_T} {tc' : Nat} : cI P' T' tc' m := by
  cases m with
  | none => show P' 0 4 = 0; rw [hF 0 4 (by simp)]; exact h
  | some q =>
    obtain ⟨a1, a2, a3, a4, a5, a6, a7⟩ := h
    refine ⟨by rw [hF 0 4 (by simp)]; exact a1, by rw [hF 34 0 (by omega)]; exact a2, by rw [hF 34 1 (by omega)]; exact a3, by rw [hF 34 2 (by omega)]; exact a4, fun l hl => ?_, fun c hc => ?_, fun b hb => ?_⟩
    · rw [hF 35 l (by omega), hF 36 l (by omega), hF 37 l (by omega)]; exact a5 l hl
    · rw [hF 38 c (by omega), hF 39 c (by omega), hF 40 c (by omega)]; exact a6 c hc
    · rw [hF 41 b (by omega), hF 42 b (by omega)]; exact a7 b hb
theorem cF_fr {T : sp_T} {C : Nat → List Int32} {K : sp_K} (h : cF P T C K) (hF : ∀ k j, ((k = 25 ∧ (j = 1 ∨ j = 2)) ∨ k = 26) → P' k j = P k j) : cF P' T C K := by
  rcases h with h | ⟨h1, h2, h3⟩
  · exact Or.inl (by rw [hF 25 2 (by simp)]; exact h)
  · exact Or.inr ⟨by rw [hF 25 2 (by simp)]; exact h1, by rw [hF 25 1 (by simp)]; exact h2, fun b hb => by rw [hF 26 b (by simp)]; exact h3 b hb⟩
/-- cells 25, 26 (the search's) apart -/
theorem CI_25 {A : sA} (h : CI dy P A) (hF : ∀ k j, k ≠ 25 → k ≠ 26 → P' k j = P k j) (hc : cF P' A.1 (A.2.2.2.1.2.1 A.2.2.2.1.2.2) A.2.1) : CI dy P' A := by
  obtain ⟨h1, h2, h3, h4, h5, h6, h7, h8, h9⟩ := h
  exact ⟨rl_L_fr h1 (fun k j h => hF k j (by omega) (by omega)), rl_C_fr h2 (fun k j h => hF k j (by omega) (by omega)), cP_fr h3 (fun k j h => hF k j (by omega) (by omega)), cX_fr h4 (fun k j h => hF k j (by omega) (by omega)), cB_fr h5 (fun k j h => hF k j (by omega) (by omega)), cS_fr h6 (fun k j h => hF k j (by omega) (by omega)), cI_fr h7 (fun k j h => hF k j (by omega) (by omega)), hc, wf_P h9 (fun k j h => hF k j (by omega) (by omega))⟩
/-- the model's cells apart -/
theorem CI_md {A : sA} (h : CI dy P A) (hF : ∀ k j, (k < 52 ∨ 76 < k) → P' k j = P k j) : CI dy P' A := by
  obtain ⟨h1, h2, h3, h4, h5, h6, h7, h8, h9⟩ := h
  exact ⟨rl_L_fr h1 (fun k j h => hF k j (by omega)), rl_C_fr h2 (fun k j h => hF k j (by omega)), cP_fr h3 (fun k j h => hF k j (by omega)), cX_fr h4 (fun k j h => hF k j (by omega)), cB_fr h5 (fun k j h => hF k j (by omega)), cS_fr h6 (fun k j h => hF k j (by omega)), cI_fr h7 (fun k j h => hF k j (by omega)), cF_fr h8 (fun k j h => hF k j (by omega)), wf_P h9 (fun k j h => hF k j (by omega))⟩
theorem rl_LM_fr {T : sp_T} (h : rl_LM T P) (hF : ∀ k j, ((k = 52 ∧ j = 10) ∨ k = 56 ∨ k = 57 ∨ k = 58) → P' k j = P k j) : rl_LM T P' := by
  obtain ⟨l1, l2, l3⟩ := h
  refine ⟨by rw [hF 52 10 (by simp)]; exact l1, l2, fun l hl => ?_⟩
  rw [hF 56 l (by simp), hF 57 l (by simp), hF 58 l (by simp)]
  exact l3 l hl
theorem rl_CM_fr {K : sp_K} (h : rl_CM K P) (hF : ∀ k j, ((k = 52 ∧ j = 14) ∨ k = 59 ∨ k = 60 ∨ k = 61) → P' k j = P k j) : rl_CM K P' := by
  obtain ⟨k1, k2, k3⟩ := h
  refine ⟨by rw [hF 52 14 (by simp)]; exact k1, k2, fun c hc => ?_⟩
  rw [hF 59 c (by simp), hF 60 c (by simp), hF 61 c (by simp)]
  exact k3 c hc
theorem dP_fr {p : sP} (h : dP P p) (hF : ∀ j, P' 62 j = P 62 j) : dP P' p := fun b hb => by
  rw [hF, hF]
  exact h b hb
theorem dX_fr {x : sX} (h : dX P x) (hF : ∀ k j, ((k = 52 ∧ (j = 3 ∨ j = 4)) ∨ k = 53 ∨ k = 54) → P' k j = P k j) : dX P' x := by
  obtain ⟨h1, h2, h3, h4, h5⟩ := h
  refine ⟨by rw [hF 52 3 (by simp)]; exact h1, h2, by rw [hF 52 4 (by simp)]; exact h3, h4, fun t ht => ?_⟩
  obtain ⟨n, F, B, c1, c2, c3, c4⟩ := h5 t ht
  exact ⟨n, F, B, by rw [hF 54 t (by simp)]; exact c1, c2, fun i hi => by rw [hF 53 _ (by simp)]; exact c3 i hi, c4⟩
theorem dB_fr {b : Nat × (Nat → Int32)} (h : dB P b) (hF : ∀ k j, ((k = 52 ∧ j = 6) ∨ k = 55) → P' k j = P k j) : dB P' b := by
  obtain ⟨h1, h2, h3⟩ := h
  exact ⟨by rw [hF 52 6 (by simp)]; exact h1, h2, fun j hj => by rw [hF 55 j (by simp)]; exact h3 j hj⟩
theorem dS_fr {s : sS} (h : dS P s) (hF : ∀ k j, (72 < k ∧ k < 77) → P' k j = P k j) : dS P' s := by
  intro k hk
  have h2 := h k hk
  cases hs : s k with
  | none =>
    rw [hs] at h2
    show P' 73 k = 0
    rw [hF 73 k (by omega)]
    exact h2
  | some q =>
    rw [hs] at h2
    obtain ⟨a0, a1, a2, a3, a4, a5⟩ := h2
    exact ⟨by rw [hF 73 k (by omega)]; exact a0, by rw [hF 74 k (by omega)]; exact a1, a2, by rw [hF 75 k (by omega)]; exact a3, a4, fun i hi => by rw [hF 76 _ (by omega)]; exact a5 i hi⟩
theorem dI_fr {m : sI} (h : dI P m) (hF : ∀ k j, ((k = 52 ∧ (j = 42 ∨ j = 43 ∨ j = 44)) ∨ k = 72) → P' k j = P k j) : dI P' m := by
  cases m with
  | none => show P' 52 42 = -1; rw [hF 52 42 (by simp)]; exact h
  | some q =>
    obtain ⟨a2, a3, a4, a5, a6, a7⟩ := h
    refine ⟨by rw [hF 52 42 (by simp)]; exact a2, by rw [hF 52 43 (by simp)]; exact a3, by rw [hF 52 44 (by simp)]; exact a4, fun l hl => ?_, fun c hc => ?_, fun b hb => ?_⟩
    · rw [hF 72 _ (by simp), hF 72 _ (by simp)]; exact a5 l hl
    · rw [hF 72 _ (by simp), hF 72 _ (by simp), hF 72 _ (by simp)]; exact a6 c hc
    · rw [hF 72 _ (by simp), hF 72 _ (by simp)]; exact a7 b hb
theorem MI_cl {A : sA} (h : MI P A) (hF : ∀ k j, 52 ≤ k → k ≤ 76 → P' k j = P k j) : MI P' A := by
  obtain ⟨h1, h2, h3, h4, h5, h6, h7⟩ := h
  exact ⟨rl_LM_fr h1 (fun k j h => hF k j (by omega) (by omega)), rl_CM_fr h2 (fun k j h => hF k j (by omega) (by omega)), dP_fr h3 (fun j => hF 62 j (by omega) (by omega)), dX_fr h4 (fun k j h => hF k j (by omega) (by omega)), dB_fr h5 (fun k j h => hF k j (by omega) (by omega)), dS_fr h6 (fun k j h => hF k j (by omega) (by omega)), dI_fr h7 (fun k j h => hF k j (by omega) (by omega))⟩
end
theorem nr_cong {g g' : Nat → Nat → Int32} {k j : Nat} (h : g' k j = g k j) : nr_ g' k j = nr_ g k j := by
  unfold nr_
  rw [h]

