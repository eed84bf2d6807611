/-! ===== fields and arrays over the picture ===== -/
def mm_ty : Nat → Nat → FieldType
  | 0 => tyX0
  | 1 => tyX1
  | 2 => tyX2
  | 3 => tyX3
  | 4 => tyX4
  | 5 => tyX5
  | 6 => tyX6
  | 7 => tyX7
  | 8 => tyX8
  | 9 => tyX9
  | 10 => tyX10
  | 11 => tyX11
  | _ => tyX12
theorem mm_win {ws : List Cond} (h : ws.all (fun w => decide (w ∈ lw_tbl) && goodWord w) = true) : ∀ w ∈ ws, w ∈ mm_G := by
  intro w hw
  have h1 := List.all_eq_true.mp h w hw
  simp only [Bool.and_eq_true, decide_eq_true_eq] at h1
  exact List.mem_filter.mpr h1
theorem mm_wat {w : Cond} (i : Nat) (h : lw_tbl[i]? = some w) (hg : goodWord w = true) : w ∈ mm_G := List.mem_filter.mpr ⟨List.mem_of_getElem? h, hg⟩
theorem mm_u0 : ∀ w ∈ u_ws RX0 TX0 11, w ∈ mm_G := mm_win (by decide +kernel)
theorem mm_u6 : ∀ w ∈ u_ws RX6 TX6 7, w ∈ mm_G := mm_win (by decide +kernel)
theorem mm_u7 : ∀ w ∈ u_ws RX7 TX7 7, w ∈ mm_G := mm_win (by decide +kernel)
theorem mm_u9 : ∀ w ∈ u_ws RX9 TX9 7, w ∈ mm_G := mm_win (by decide +kernel)
theorem mm_u10 : ∀ w ∈ u_ws RX10 TX10 3, w ∈ mm_G := mm_win (by decide +kernel)
theorem mm_u11 : ∀ w ∈ u_ws RX11 TX11 10, w ∈ mm_G := mm_win (by decide +kernel)
theorem mm_u12 : ∀ w ∈ u_ws RX12 TX12 49, w ∈ mm_G := mm_win (by decide +kernel)
theorem mm_cls {ci : Nat} {q : vw_C} (hc : vwCl[ci]? = some q) : (∀ k, k < q.2.2 → parseFieldDescriptor (q.2.1 k).2.2.1 = some (mm_ty ci k)) ∧ (∀ a, a < q.2.2 → ∀ b, b < q.2.2 → a ≠ b → (q.2.1 a).2.1 ≠ (q.2.1 b).2.1) ∧ (∀ w ∈ u_ws q.1 q.2.1 q.2.2, w ∈ mm_G) := by
  match ci, hc with
  | 0, hc => cases hc; exact ⟨tyX0_ok, nmX0, mm_u0⟩
  | 1, hc => cases hc; exact ⟨tyX1_ok, nmX1, fun w hw => by cases hw⟩
  | 2, hc => cases hc; exact ⟨tyX2_ok, nmX2, fun w hw => by cases hw⟩
  | 3, hc => cases hc; exact ⟨tyX3_ok, nmX3, fun w hw => by cases hw⟩
  | 4, hc => cases hc; exact ⟨tyX4_ok, nmX4, fun w hw => by cases hw⟩
  | 5, hc => cases hc; exact ⟨tyX5_ok, nmX5, fun w hw => by cases hw⟩
  | 6, hc => cases hc; exact ⟨tyX6_ok, nmX6, mm_u6⟩
  | 7, hc => cases hc; exact ⟨tyX7_ok, nmX7, mm_u7⟩
  | 8, hc => cases hc; exact ⟨tyX8_ok, nmX8, fun w hw => by cases hw⟩
  | 9, hc => cases hc; exact ⟨tyX9_ok, nmX9, mm_u9⟩
  | 10, hc => cases hc; exact ⟨tyX10_ok, nmX10, mm_u10⟩
  | 11, hc => cases hc; exact ⟨tyX11_ok, nmX11, mm_u11⟩
  | 12, hc => cases hc; exact ⟨tyX12_ok, nmX12, mm_u12⟩
  | n + 13, hc => cases hc
