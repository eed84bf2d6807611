/-! ===== the model: hears, worth, forgets, begins, passes, spring ===== -/
theorem nI_mul (a b : Nat) : nI a * nI b = nI (a * b) := (Int32.ofNat_mul a b).symm
/-- the notes: not yet known, or the answer -/
def vh_ (C : Nat → List Int32) (ag : Nat → Nat) (i : Nat) : Int32 := if sp_H C ag (i / 140 % 6) (i / 840) (i / 35 % 4) (i / 7 % 5) (i % 7) = true then 1 else 0
def vw_ (C : Nat → List Int32) (ag : Nat → Nat) (i : Nat) : Int32 := f_Mo_within (sp_W C ag (i / 140) (i / 35 % 4) (i / 7 % 5) (i % 7)) (-99) 99
def nh_ (C : Nat → List Int32) (ag : Nat → Nat) (g : Nat → Nat → Int32) : Prop := ∀ i, i < 5040 → g 63 i = -1 ∨ g 63 i = vh_ C ag i
def nw_ (C : Nat → List Int32) (ag : Nat → Nat) (g : Nat → Nat → Int32) : Prop := ∀ i, i < 840 → g 64 i = 1000 ∨ g 64 i = vw_ C ag i
def ixh (b c l k o : Nat) : Nat := (((b * 6 + c) * 4 + l) * 5 + k) * 7 + o
theorem vh_at {C : Nat → List Int32} {ag : Nat → Nat} {b c l k o : Nat} (hc : c < 6) (hl : l < 4) (hk : k < 5) (ho : o < 7) : vh_ C ag (ixh b c l k o) = if sp_H C ag c b l k o = true then 1 else 0 := by
  unfold vh_ ixh
  rw [show ((((b * 6 + c) * 4 + l) * 5 + k) * 7 + o) / 140 % 6 = c by omega, show ((((b * 6 + c) * 4 + l) * 5 + k) * 7 + o) / 840 = b by omega, show ((((b * 6 + c) * 4 + l) * 5 + k) * 7 + o) / 35 % 4 = l by omega, show ((((b * 6 + c) * 4 + l) * 5 + k) * 7 + o) / 7 % 5 = k by omega, show ((((b * 6 + c) * 4 + l) * 5 + k) * 7 + o) % 7 = o by omega]
theorem vw_at {C : Nat → List Int32} {ag : Nat → Nat} {c l k o : Nat} (hl : l < 4) (hk : k < 5) (ho : o < 7) : vw_ C ag (((c * 4 + l) * 5 + k) * 7 + o) = f_Mo_within (sp_W C ag c l k o) (-99) 99 := by
  unfold vw_
  rw [show (((c * 4 + l) * 5 + k) * 7 + o) / 140 = c by omega, show (((c * 4 + l) * 5 + k) * 7 + o) / 35 % 4 = l by omega, show (((c * 4 + l) * 5 + k) * 7 + o) / 7 % 5 = k by omega, show (((c * 4 + l) * 5 + k) * 7 + o) % 7 = o by omega]
theorem ix_nI (b c l k o : Nat) : (((((nI b * 6 + nI c) * 4 + nI l) * 5 + nI k) * 7) + nI o) = nI (ixh b c l k o) := by
  unfold ixh
  rw [show nI b * 6 = nI (b * 6) from nI_mul b 6, nI_add, show nI (b * 6 + c) * 4 = nI ((b * 6 + c) * 4) from nI_mul _ 4, nI_add, show nI ((b * 6 + c) * 4 + l) * 5 = nI (((b * 6 + c) * 4 + l) * 5) from nI_mul _ 5, nI_add, show nI (((b * 6 + c) * 4 + l) * 5 + k) * 7 = nI ((((b * 6 + c) * 4 + l) * 5 + k) * 7) from nI_mul _ 7, nI_add]
theorem ix_nW (c l k o : Nat) : ((((nI c * 4 + nI l) * 5 + nI k) * 7) + nI o) = nI (((c * 4 + l) * 5 + k) * 7 + o) := by
  rw [show nI c * 4 = nI (c * 4) from nI_mul _ 4, nI_add, show nI (c * 4 + l) * 5 = nI ((c * 4 + l) * 5) from nI_mul _ 5, nI_add, show nI ((c * 4 + l) * 5 + k) * 7 = nI (((c * 4 + l) * 5 + k) * 7) from nI_mul _ 7, nI_add]
def mu_ (k j : Nat) : Bool := mj_ k j || (k == 63 || k == 64)
theorem mu_mj : ∀ k j, mu_ k j = false → mj_ k j = false := fun k j h => (Bool.or_eq_false_iff.mp h).1
theorem mu_nr : ∀ k j, nr_s k j = false → mu_ k j = false := by
  intro k j h
  unfold mu_
  rw [mj_nr k j h]
  cases h63 : k == 63 with
  | true => rw [show k = 63 by simpa using h63] at h; cases h
  | false =>
    cases h64 : k == 64 with
    | true => rw [show k = 64 by simpa using h64] at h; cases h
    | false => rfl
theorem mm_up_at (g : Nat → Nat → Int32) (k j : Nat) (v : Int32) : mm_up g k j v k j = v := by simp [mm_up]
theorem mm_up_no {g : Nat → Nat → Int32} {k j i : Nat} {v : Int32} (h : i ≠ j) : mm_up g k j v k i = g k i := by simp [mm_up, beq_false_of_ne h]
theorem nh_fr {C : Nat → List Int32} {ag : Nat → Nat} {g g' : Nat → Nat → Int32} (h : nh_ C ag g) (hF : ∀ i, g' 63 i = g 63 i) : nh_ C ag g' := fun i hi => by rw [hF]; exact h i hi
theorem nw_fr {C : Nat → List Int32} {ag : Nat → Nat} {g g' : Nat → Nat → Int32} (h : nw_ C ag g) (hF : ∀ i, g' 64 i = g 64 i) : nw_ C ag g' := fun i hi => by rw [hF]; exact h i hi
theorem ct_Mo_hears (dy : List mm_Sh) (g P : Nat → Nat → Int32) (r : (Nat → Nat → Int64) × Nat × (Nat → Int32)) (hP : nr_ g = P) {C : Nat → List Int32} (hR : rt_M P C) {ag : Nat → Nat} {b c l k o : Nat} (hnh : nh_ C ag g) (hb : b < 6) (hc : c < 6) (hl : l < 4) (hk : k < 5) (ho : o < 7) (hag : P 61 c = nI (ag c)) : mm_Ct 57 M_Mo_hears [.ref 52, .int (nI b), .int (nI c), .int (nI l), .int (nI k), .int (nI o)] (hp_SH ++ dy, g, r) 0 0 (fun v h' => v = some (.int (if sp_H C ag c b l k o = true then 1 else 0)) ∧ ∃ g' r', h' = (hp_SH ++ dy, g', r') ∧ r'.2 = r.2 ∧ fr_ mu_ g g' ∧ (∀ i, g' 64 i = g 64 i) ∧ nh_ C ag g') := by
  have hv := vh_at (C := C) (ag := ag) (b := b) hc hl hk ho
  have hi : ixh b c l k o < 5040 := by unfold ixh; omega
  generalize hix : ixh b c l k o = i at hv hi
  refine mm_start pl_Mo (Nat.le_of_ble_eq_true rfl) ?_
  refine mm_B ok_Mo_hears 0 18 (23, [some (.ref 52), some (.int (nI b)), some (.int (nI c)), some (.int (nI l)), some (.int (nI k)), some (.int (nI o)), some (.int (((((((((nI b) * 6) + (nI c)) * 4) + (nI l)) * 5) + (nI k)) * 7) + (nI o)))], [], (hp_SH ++ dy, g, r)) [] rfl trivial ?_
  rw [ix_nI, hix]
  refine mm_B ok_Mo_hears 18 5 (31, [some (.ref 52), some (.int (nI b)), some (.int (nI c)), some (.int (nI l)), some (.int (nI k)), some (.int (nI o)), some (.int (nI i))], [.int (-1), .int (g 63 ((nI i).toNatClampNeg))], (hp_SH ++ dy, g, r)) [vp_in (nI i) 5040] rfl (show vp_in (nI i) 5040 from (nI_vi hi (by decide))) ?_
  rw [nI_clamp (show i < 2 ^ 31 by omega)]
  have hz : ∀ z : Int32, vh_ C ag i = z → (z = 0 ∨ z = 1) := by
    intro z h
    rw [← h, hv]
    split
    · exact Or.inr rfl
    · exact Or.inl rfl
  by_cases hm : g 63 i = -1
  · refine mm_I ok_Mo_hears 23 0 31 [some (.ref 52), some (.int (nI b)), some (.int (nI c)), some (.int (nI l)), some (.int (nI k)), some (.int (nI o)), some (.int (nI i))] [.int (-1), .int (g 63 i)] (hp_SH ++ dy, g, r) [] rfl trivial rfl rfl (fun q => False.elim (absurd hm q)) (fun _ => ?_)
    refine mm_B ok_Mo_hears 24 10 (49, [some (.ref 52), some (.int (nI b)), some (.int (nI c)), some (.int (nI l)), some (.int (nI k)), some (.int (nI o)), some (.int (nI i))], [.int (nI o), .int (nI k), .int (nI l), .int (nI c), .int (nI b), .int 0, .ref 52, .int (nI i), .ref 63], (hp_SH ++ dy, g, r)) [] rfl trivial ?_
    refine mm_cV (as := [.int 0, .int (nI b), .int (nI c), .int (nI l), .int (nI k), .int (nI o)]) (st := [.int (nI i), .ref 63]) (q := 52) cw_Mo_says lk_Mo_256 in_Mo_says sl_Mo_says rfl rfl (mm_at ok_Mo_hears (i := 34) rfl).1 (ct_Mo_says dy g P r hP hR (w := 0) (nI b) (nI l) (nI k) (nI o) (by decide) hc hag) (by decide) ⟨by omega, by omega⟩ (Nat.le_of_ble_eq_true rfl) (mm_vs_b (b := 77) rfl (hp_len dy)) (fun v h' hqq => ?_)
    obtain ⟨rfl, g1, r1, hqe, hr1, hF1⟩ := hqq; rw [hqe]
    have hF1u : fr_ mu_ g g1 := hF1.mono mu_mj
    have hend : ∀ z : Int32, vh_ C ag i = z → nh_ C ag (mm_up g1 63 i z) := by
      intro z h j hj
      by_cases e : j = i
      · subst e
        right
        rw [mm_up_at]
        exact h.symm
      · rw [mm_up_no e, hF1 63 j rfl]
        exact hnh j hj
    refine mm_I ok_Mo_hears 35 0 52 [some (.ref 52), some (.int (nI b)), some (.int (nI c)), some (.int (nI l)), some (.int (nI k)), some (.int (nI o)), some (.int (nI i))] [.int (ev_ (C 0) (nI b) (nI c) (nI l) (nI k) (nI (ag c)) (nI o)), .int (nI i), .ref 63] (hp_SH ++ dy, g1, r1) [] rfl trivial rfl rfl (fun q0 => ?_) (fun q0 => ?_)
    · have h0 : sp_H C ag c b l k o = false := by unfold sp_H; rw [q0]; rfl
      rw [h0] at hv
      refine mm_B ok_Mo_hears 38 7 (69, [some (.ref 52), some (.int (nI b)), some (.int (nI c)), some (.int (nI l)), some (.int (nI k)), some (.int (nI o)), some (.int (nI i))], [.int 1, .int ((mm_up g1 63 ((nI i).toNatClampNeg) 0) 63 ((nI i).toNatClampNeg))], (hp_SH ++ dy, mm_up g1 63 ((nI i).toNatClampNeg) 0, r1)) [vp_in (nI i) 5040, vp_in (nI i) 5040] rfl (show (vp_in (nI i) 5040) ∧ (vp_in (nI i) 5040) from ⟨(nI_vi hi (by decide)), (nI_vi hi (by decide))⟩) ?_
      rw [nI_clamp (show i < 2 ^ 31 by omega), mm_up_at]
      refine mm_I ok_Mo_hears 45 0 69 [some (.ref 52), some (.int (nI b)), some (.int (nI c)), some (.int (nI l)), some (.int (nI k)), some (.int (nI o)), some (.int (nI i))] [.int 1, .int 0] (hp_SH ++ dy, mm_up g1 63 i 0, r1) [] rfl trivial rfl rfl (fun _ => ?_) (fun q => False.elim (absurd q (by decide)))
      refine mm_B ok_Mo_hears 48 1 (77, [some (.ref 52), some (.int (nI b)), some (.int (nI c)), some (.int (nI l)), some (.int (nI k)), some (.int (nI o)), some (.int (nI i))], [.int 0], (hp_SH ++ dy, mm_up g1 63 i 0, r1)) [] rfl trivial ?_
      exact mm_rz rfl (mm_at ok_Mo_hears (i := 49) rfl).1 ⟨Nat.le_refl _, Nat.le_refl _⟩ (Or.inl rfl) (⟨by rw [h0]; rfl, _, r1, rfl, hr1, hF1u.up _ rfl, fun j => hF1 64 j rfl, hend 0 hv⟩)
    · have h1 : sp_H C ag c b l k o = true := by unfold sp_H; exact decide_eq_true q0
      rw [h1] at hv
      refine mm_B ok_Mo_hears 36 2 (60, [some (.ref 52), some (.int (nI b)), some (.int (nI c)), some (.int (nI l)), some (.int (nI k)), some (.int (nI o)), some (.int (nI i))], [.int 1, .int (nI i), .ref 63], (hp_SH ++ dy, g1, r1)) [] rfl trivial ?_
      refine mm_B ok_Mo_hears 39 6 (69, [some (.ref 52), some (.int (nI b)), some (.int (nI c)), some (.int (nI l)), some (.int (nI k)), some (.int (nI o)), some (.int (nI i))], [.int 1, .int ((mm_up g1 63 ((nI i).toNatClampNeg) 1) 63 ((nI i).toNatClampNeg))], (hp_SH ++ dy, mm_up g1 63 ((nI i).toNatClampNeg) 1, r1)) [vp_in (nI i) 5040, vp_in (nI i) 5040] rfl (show (vp_in (nI i) 5040) ∧ (vp_in (nI i) 5040) from ⟨(nI_vi hi (by decide)), (nI_vi hi (by decide))⟩) ?_
      rw [nI_clamp (show i < 2 ^ 31 by omega), mm_up_at]
      refine mm_I ok_Mo_hears 45 0 69 [some (.ref 52), some (.int (nI b)), some (.int (nI c)), some (.int (nI l)), some (.int (nI k)), some (.int (nI o)), some (.int (nI i))] [.int 1, .int 1] (hp_SH ++ dy, mm_up g1 63 i 1, r1) [] rfl trivial rfl rfl (fun q => False.elim (q rfl)) (fun _ => ?_)
      refine mm_B ok_Mo_hears 46 2 (77, [some (.ref 52), some (.int (nI b)), some (.int (nI c)), some (.int (nI l)), some (.int (nI k)), some (.int (nI o)), some (.int (nI i))], [.int 1], (hp_SH ++ dy, mm_up g1 63 i 1, r1)) [] rfl trivial ?_
      exact mm_rz rfl (mm_at ok_Mo_hears (i := 49) rfl).1 ⟨Nat.le_refl _, Nat.le_refl _⟩ (Or.inr rfl) (⟨by rw [h1]; rfl, _, r1, rfl, hr1, hF1u.up _ rfl, fun j => hF1 64 j rfl, hend 1 hv⟩)
  · have hg : g 63 i = vh_ C ag i := (hnh i hi).resolve_left hm
    rw [hv] at hg
    refine mm_I ok_Mo_hears 23 0 31 [some (.ref 52), some (.int (nI b)), some (.int (nI c)), some (.int (nI l)), some (.int (nI k)), some (.int (nI o)), some (.int (nI i))] [.int (-1), .int (g 63 i)] (hp_SH ++ dy, g, r) [] rfl trivial rfl rfl (fun _ => ?_) (fun q => False.elim (hm q))
    refine mm_B ok_Mo_hears 40 5 (69, [some (.ref 52), some (.int (nI b)), some (.int (nI c)), some (.int (nI l)), some (.int (nI k)), some (.int (nI o)), some (.int (nI i))], [.int 1, .int (g 63 ((nI i).toNatClampNeg))], (hp_SH ++ dy, g, r)) [vp_in (nI i) 5040] rfl (show vp_in (nI i) 5040 from (nI_vi hi (by decide))) ?_
    rw [nI_clamp (show i < 2 ^ 31 by omega)]
    by_cases hh : sp_H C ag c b l k o = true
    · rw [if_pos hh] at hg ⊢
      refine mm_I ok_Mo_hears 45 0 69 [some (.ref 52), some (.int (nI b)), some (.int (nI c)), some (.int (nI l)), some (.int (nI k)), some (.int (nI o)), some (.int (nI i))] [.int 1, .int (g 63 i)] (hp_SH ++ dy, g, r) [] rfl trivial rfl rfl (fun q => False.elim (q hg)) (fun _ => ?_)
      refine mm_B ok_Mo_hears 46 2 (77, [some (.ref 52), some (.int (nI b)), some (.int (nI c)), some (.int (nI l)), some (.int (nI k)), some (.int (nI o)), some (.int (nI i))], [.int 1], (hp_SH ++ dy, g, r)) [] rfl trivial ?_
      exact mm_rz rfl (mm_at ok_Mo_hears (i := 49) rfl).1 ⟨Nat.le_refl _, Nat.le_refl _⟩ (Or.inr rfl) (⟨rfl, g, r, rfl, rfl, fr_.rf, fun _ => rfl, hnh⟩)
    · rw [if_neg hh] at hg ⊢
      refine mm_I ok_Mo_hears 45 0 69 [some (.ref 52), some (.int (nI b)), some (.int (nI c)), some (.int (nI l)), some (.int (nI k)), some (.int (nI o)), some (.int (nI i))] [.int 1, .int (g 63 i)] (hp_SH ++ dy, g, r) [] rfl trivial rfl rfl (fun _ => ?_) (fun q => False.elim (absurd (hg.symm.trans q) (by decide)))
      refine mm_B ok_Mo_hears 48 1 (77, [some (.ref 52), some (.int (nI b)), some (.int (nI c)), some (.int (nI l)), some (.int (nI k)), some (.int (nI o)), some (.int (nI i))], [.int 0], (hp_SH ++ dy, g, r)) [] rfl trivial ?_
      exact mm_rz rfl (mm_at ok_Mo_hears (i := 49) rfl).1 ⟨Nat.le_refl _, Nat.le_refl _⟩ (Or.inl rfl) (⟨rfl, g, r, rfl, rfl, fr_.rf, fun _ => rfl, hnh⟩)
theorem nw_up {C : Nat → List Int32} {ag : Nat → Nat} {g g1 : Nat → Nat → Int32} {i : Nat} {z : Int32} (h : nw_ C ag g) (hF : fr_ mj_ g g1) (hz : vw_ C ag i = z) : nw_ C ag (mm_up g1 64 i z) := by
  intro j hj
  by_cases e : j = i
  · subst e
    right
    rw [mm_up_at]
    exact hz.symm
  · rw [mm_up_no e, hF 64 j rfl]
    exact h j hj
theorem ct_Mo_worth (dy : List mm_Sh) (g P : Nat → Nat → Int32) (r : (Nat → Nat → Int64) × Nat × (Nat → Int32)) (hP : nr_ g = P) {C : Nat → List Int32} (hR : rt_M P C) {ag : Nat → Nat} {c l k o : Nat} (hnw : nw_ C ag g) (hc : c < 6) (hl : l < 4) (hk : k < 5) (ho : o < 7) (hag : P 61 c = nI (ag c)) : mm_Ct 57 M_Mo_worth [.ref 52, .int (nI c), .int (nI l), .int (nI k), .int (nI o)] (hp_SH ++ dy, g, r) 0 0 (fun v h' => v = some (.int (f_Mo_within (sp_W C ag c l k o) (-99) 99)) ∧ ∃ g' r', h' = (hp_SH ++ dy, g', r') ∧ r'.2 = r.2 ∧ fr_ mu_ g g' ∧ (∀ i, g' 63 i = g 63 i) ∧ nw_ C ag g') := by
  have hv := vw_at (C := C) (ag := ag) (c := c) hl hk ho
  have hi : ((c * 4 + l) * 5 + k) * 7 + o < 840 := by omega
  refine mm_start pl_Mo (Nat.le_of_ble_eq_true rfl) ?_
  refine mm_B ok_Mo_worth 0 14 (17, [some (.ref 52), some (.int (nI c)), some (.int (nI l)), some (.int (nI k)), some (.int (nI o)), some (.int (((((((nI c) * 4) + (nI l)) * 5) + (nI k)) * 7) + (nI o)))], [], (hp_SH ++ dy, g, r)) [] rfl trivial ?_
  rw [ix_nW]
  generalize ((c * 4 + l) * 5 + k) * 7 + o = i at hv hi ⊢
  refine mm_B ok_Mo_worth 14 5 (27, [some (.ref 52), some (.int (nI c)), some (.int (nI l)), some (.int (nI k)), some (.int (nI o)), some (.int (nI i))], [.int 1000, .int (g 64 ((nI i).toNatClampNeg))], (hp_SH ++ dy, g, r)) [vp_in (nI i) 840] rfl (show vp_in (nI i) 840 from (nI_vi hi (by decide))) ?_
  rw [nI_clamp (show i < 2 ^ 31 by omega)]
  by_cases hm : g 64 i = 1000
  · refine mm_I ok_Mo_worth 19 0 27 [some (.ref 52), some (.int (nI c)), some (.int (nI l)), some (.int (nI k)), some (.int (nI o)), some (.int (nI i))] [.int 1000, .int (g 64 i)] (hp_SH ++ dy, g, r) [] rfl trivial rfl rfl (fun q => False.elim (absurd hm q)) (fun _ => ?_)
    refine mm_B ok_Mo_worth 20 10 (44, [some (.ref 52), some (.int (nI c)), some (.int (nI l)), some (.int (nI k)), some (.int (nI o)), some (.int (nI i))], [.int (nI o), .int (nI k), .int (nI l), .int (nI c), .int 5, .int 1, .ref 52, .int (nI i), .ref 64], (hp_SH ++ dy, g, r)) [] rfl trivial ?_
    refine mm_cV (as := [.int 1, .int 5, .int (nI c), .int (nI l), .int (nI k), .int (nI o)]) (st := [.int (nI i), .ref 64]) (q := 52) cw_Mo_says lk_Mo_256 in_Mo_says sl_Mo_says rfl rfl (mm_at ok_Mo_worth (i := 30) rfl).1 (ct_Mo_says dy g P r hP hR (w := 1) 5 (nI l) (nI k) (nI o) (by decide) hc hag) (by decide) ⟨by omega, by omega⟩ (Nat.le_of_ble_eq_true rfl) (mm_vs_b (b := 77) rfl (hp_len dy)) (fun v h' hqq => ?_)
    obtain ⟨rfl, g1, r1, hqe, hr1, hF1⟩ := hqq; rw [hqe, show ev_ (C 1) 5 (nI c) (nI l) (nI k) (nI (ag c)) (nI o) = sp_W C ag c l k o from rfl]
    refine mm_B ok_Mo_worth 31 2 (51, [some (.ref 52), some (.int (nI c)), some (.int (nI l)), some (.int (nI k)), some (.int (nI o)), some (.int (nI i))], [.int 99, .int (-99), .int (sp_W C ag c l k o), .int (nI i), .ref 64], (hp_SH ++ dy, g1, r1)) [] rfl trivial ?_
    refine mm_cS (as := [.int (sp_W C ag c l k o), .int (-99), .int 99]) (st := [.int (nI i), .ref 64]) cw_Mo_within lk_Mo_260 sx_Mo_within (mm_at ok_Mo_worth (i := 33) rfl).1 (ct_Mo_within (hp_SH ++ dy, g1, r1) (sp_W C ag c l k o) (-99) 99) (by decide) ⟨by omega, by omega⟩ (Nat.le_of_ble_eq_true rfl) (mm_vs_b (b := 77) rfl (hp_len dy)) (fun v h' hqq => ?_)
    obtain ⟨rfl, hqe⟩ := hqq; rw [hqe]
    refine mm_B ok_Mo_worth 34 5 (62, [some (.ref 52), some (.int (nI c)), some (.int (nI l)), some (.int (nI k)), some (.int (nI o)), some (.int (nI i))], [.int ((mm_up g1 64 ((nI i).toNatClampNeg) (f_Mo_within (sp_W C ag c l k o) (-99) 99)) 64 ((nI i).toNatClampNeg))], (hp_SH ++ dy, mm_up g1 64 ((nI i).toNatClampNeg) (f_Mo_within (sp_W C ag c l k o) (-99) 99), r1)) [vp_in (nI i) 840, vp_in (nI i) 840] rfl (show (vp_in (nI i) 840) ∧ (vp_in (nI i) 840) from ⟨(nI_vi hi (by decide)), (nI_vi hi (by decide))⟩) ?_
    rw [nI_clamp (show i < 2 ^ 31 by omega), mm_up_at]
    exact mm_ri rfl (mm_at ok_Mo_worth (i := 39) rfl).1 ⟨Nat.le_refl _, Nat.le_refl _⟩ (⟨rfl, _, r1, rfl, hr1, (hF1.mono mu_mj).up _ rfl, fun j => hF1 63 j rfl, fun j hj => nw_up hnw hF1 hv j hj⟩)
  · have hg : g 64 i = vw_ C ag i := (hnw i hi).resolve_left hm
    refine mm_I ok_Mo_worth 19 0 27 [some (.ref 52), some (.int (nI c)), some (.int (nI l)), some (.int (nI k)), some (.int (nI o)), some (.int (nI i))] [.int 1000, .int (g 64 i)] (hp_SH ++ dy, g, r) [] rfl trivial rfl rfl (fun _ => ?_) (fun q => False.elim (hm q))
    refine mm_B ok_Mo_worth 35 4 (62, [some (.ref 52), some (.int (nI c)), some (.int (nI l)), some (.int (nI k)), some (.int (nI o)), some (.int (nI i))], [.int (g 64 ((nI i).toNatClampNeg))], (hp_SH ++ dy, g, r)) [vp_in (nI i) 840] rfl (show vp_in (nI i) 840 from (nI_vi hi (by decide))) ?_
    rw [nI_clamp (show i < 2 ^ 31 by omega), hg, hv]
    exact mm_ri rfl (mm_at ok_Mo_worth (i := 39) rfl).1 ⟨Nat.le_refl _, Nat.le_refl _⟩ (⟨rfl, g, r, rfl, rfl, fr_.rf, fun _ => rfl, hnw⟩)
theorem ff_go (dy : List mm_Sh) (g : Nat → Nat → Int32) (r : (Nat → Nat → Int64) × Nat × (Nat → Int32)) : ∀ (m i : Nat) (g1 : Nat → Nat → Int32), i + m = 840 → fr_ mu_ g g1 → (∀ j, j < 5040 → g1 63 j = -1) → (∀ j, j < i → g1 64 j = 1000) → mm_W 1 M_Mo_forgets 0 0 (fun v h' => v = none ∧ ∃ g', h' = (hp_SH ++ dy, g', r) ∧ fr_ mu_ g g' ∧ (∀ j, j < 5040 → g' 63 j = -1) ∧ ∀ j, j < 840 → g' 64 j = 1000) 0 0 (24, [some (.ref 52), some (.int (nI i))], [], (hp_SH ++ dy, g1, r)) := by
  intro m
  induction m with
  | zero =>
    intro i g1 hi hF h63 h64
    refine mm_I ok_Mo_forgets 14 2 28 [some (.ref 52), some (.int (nI i))] [.int 840, .int (nI i)] (hp_SH ++ dy, g1, r) [] rfl trivial rfl rfl (fun _ => ?_) (fun q => False.elim (q (nI_le (a := 840) (by omega) (by omega))))
    exact mm_r0 rfl (mm_at ok_Mo_forgets (i := 24) rfl).1 ⟨Nat.le_refl _, Nat.le_refl _⟩ (⟨rfl, g1, rfl, hF, h63, fun j hj => h64 j (by omega)⟩)
  | succ m ih =>
    intro i g1 hi hF h63 h64
    refine mm_I ok_Mo_forgets 14 2 28 [some (.ref 52), some (.int (nI i))] [.int 840, .int (nI i)] (hp_SH ++ dy, g1, r) [] rfl trivial rfl rfl (fun q => False.elim (absurd q (nI_ge (b := 840) (show i < 840 by omega) (by decide)))) (fun _ => ?_)
    refine mm_B ok_Mo_forgets 17 7 (24, [some (.ref 52), some (.int ((nI i) + 1))], [], (hp_SH ++ dy, mm_up g1 64 ((nI i).toNatClampNeg) 1000, r)) [vp_in (nI i) 840] rfl (show vp_in (nI i) 840 from (nI_vi (by omega) (by decide))) ?_
    rw [nI_1, nI_clamp (show i < 2 ^ 31 by omega)]
    exact ih (i + 1) _ (by omega) (hF.up _ rfl) h63 (fun j hj => by
      by_cases e : j = i
      · rw [e, mm_up_at]
      · rw [mm_up_no e]; exact h64 j (by omega))
theorem fe_go (dy : List mm_Sh) (g : Nat → Nat → Int32) (r : (Nat → Nat → Int64) × Nat × (Nat → Int32)) : ∀ (m i : Nat) (g1 : Nat → Nat → Int32), i + m = 5040 → fr_ mu_ g g1 → (∀ j, j < i → g1 63 j = -1) → mm_W 1 M_Mo_forgets 0 0 (fun v h' => v = none ∧ ∃ g', h' = (hp_SH ++ dy, g', r) ∧ fr_ mu_ g g' ∧ (∀ j, j < 5040 → g' 63 j = -1) ∧ ∀ j, j < 840 → g' 64 j = 1000) 0 0 (2, [some (.ref 52), some (.int (nI i))], [], (hp_SH ++ dy, g1, r)) := by
  intro m
  induction m with
  | zero =>
    intro i g1 hi hF h63
    refine mm_I ok_Mo_forgets 2 2 6 [some (.ref 52), some (.int (nI i))] [.int 5040, .int (nI i)] (hp_SH ++ dy, g1, r) [] rfl trivial rfl rfl (fun _ => ?_) (fun q => False.elim (q (nI_le (a := 5040) (by omega) (by omega))))
    refine mm_B ok_Mo_forgets 12 2 (24, [some (.ref 52), some (.int 0)], [], (hp_SH ++ dy, g1, r)) [] rfl trivial ?_
    exact ff_go dy g r 840 0 g1 (by omega) hF (fun j hj => h63 j (by omega)) (fun j hj => absurd hj (Nat.not_lt_zero j))
  | succ m ih =>
    intro i g1 hi hF h63
    refine mm_I ok_Mo_forgets 2 2 6 [some (.ref 52), some (.int (nI i))] [.int 5040, .int (nI i)] (hp_SH ++ dy, g1, r) [] rfl trivial rfl rfl (fun q => False.elim (absurd q (nI_ge (b := 5040) (show i < 5040 by omega) (by decide)))) (fun _ => ?_)
    refine mm_B ok_Mo_forgets 5 7 (2, [some (.ref 52), some (.int ((nI i) + 1))], [], (hp_SH ++ dy, mm_up g1 63 ((nI i).toNatClampNeg) (-1), r)) [vp_in (nI i) 5040] rfl (show vp_in (nI i) 5040 from (nI_vi (by omega) (by decide))) ?_
    rw [nI_1, nI_clamp (show i < 2 ^ 31 by omega)]
    exact ih (i + 1) _ (by omega) (hF.up _ rfl) (fun j hj => by
      by_cases e : j = i
      · rw [e, mm_up_at]
      · rw [mm_up_no e]; exact h63 j (by omega))
theorem ct_Mo_forgets (dy : List mm_Sh) (g : Nat → Nat → Int32) (r : (Nat → Nat → Int64) × Nat × (Nat → Int32)) : mm_Ct 1 M_Mo_forgets [.ref 52] (hp_SH ++ dy, g, r) 0 0 (fun v h' => v = none ∧ ∃ g', h' = (hp_SH ++ dy, g', r) ∧ fr_ mu_ g g' ∧ (∀ j, j < 5040 → g' 63 j = -1) ∧ ∀ j, j < 840 → g' 64 j = 1000) := by
  refine mm_start pl_Mo (Nat.le_of_ble_eq_true rfl) ?_
  refine mm_B ok_Mo_forgets 0 2 (2, [some (.ref 52), some (.int 0)], [], (hp_SH ++ dy, g, r)) [] rfl trivial ?_
  exact fe_go dy g r 5040 0 g (by omega) fr_.rf (fun j hj => absurd hj (Nat.not_lt_zero j))
/-- row b of often and last tells c -/
def rw_ (g : Nat → Nat → Int32) (b : Nat) (c : sp_C) : Prop := ∀ l, l < 4 → g 65 (4 * b + l) = nI (c.1 l) ∧ g 66 (4 * b + l) = nI (c.2 l) - 1
def mo_ (b : Nat) (k j : Nat) : Bool := mu_ k j || ((k == 65 || k == 66) && (Nat.ble (4 * b) j && Nat.ble j (4 * b + 3)))
theorem mo_mu {b : Nat} : ∀ k j, mo_ b k j = false → mu_ k j = false := fun k j h => (Bool.or_eq_false_iff.mp h).1
theorem mo_in {b l k : Nat} (hl : l < 4) (hk : k = 65 ∨ k = 66) : mo_ b k (4 * b + l) = true := by
  unfold mo_
  have h1 : Nat.ble (4 * b) (4 * b + l) = true := Nat.ble_eq_true_of_le (by omega)
  have h2 : Nat.ble (4 * b + l) (4 * b + 3) = true := Nat.ble_eq_true_of_le (by omega)
  rw [h1, h2]
  rcases hk with rfl | rfl <;> simp
theorem mo_out {b b' l k : Nat} (hb : b' ≠ b) (hl : l < 4) (hk : k = 65 ∨ k = 66) : mo_ b k (4 * b' + l) = false := by
  unfold mo_ mu_ mj_
  have h12 : (Nat.ble (4 * b) (4 * b' + l) && Nat.ble (4 * b' + l) (4 * b + 3)) = false := by
    cases h1 : Nat.ble (4 * b) (4 * b' + l) with
    | false => rfl
    | true =>
      cases h2 : Nat.ble (4 * b' + l) (4 * b + 3) with
      | false => rfl
      | true =>
        have a1 := Nat.le_of_ble_eq_true h1
        have a2 := Nat.le_of_ble_eq_true h2
        exact absurd (show b' = b by omega) hb
  rw [h12]
  rcases hk with rfl | rfl <;> simp
theorem mo_nr {b : Nat} : ∀ k j, nr_s k j = false → mo_ b k j = false := by
  intro k j h
  unfold mo_
  rw [mu_nr k j h]
  cases h65 : k == 65 with
  | true => rw [show k = 65 by simpa using h65] at h; cases h
  | false =>
    cases h66 : k == 66 with
    | true => rw [show k = 66 by simpa using h66] at h; cases h
    | false => rfl
theorem rw_fr {b b' : Nat} {g g' : Nat → Nat → Int32} {c : sp_C} (h : rw_ g b' c) (hF : fr_ (mo_ b) g g') (hb : b' ≠ b) : rw_ g' b' c := fun l hl => by
  rw [hF 65 _ (mo_out hb hl (Or.inl rfl)), hF 66 _ (mo_out hb hl (Or.inr rfl))]
  exact h l hl
theorem be_go (dy : List mm_Sh) (g : Nat → Nat → Int32) (r : (Nat → Nat → Int64) × Nat × (Nat → Int32)) : ∀ (m i : Nat) (g1 : Nat → Nat → Int32), i + m = 4 → fr_ (mo_ 0) g g1 → (∀ i, g1 63 i = g 63 i ∧ g1 64 i = g 64 i) → (∀ j, j < i → g1 65 j = 0 ∧ g1 66 j = -1) → mm_W 1 M_Mo_begins 0 0 (fun v h' => v = none ∧ ∃ g', h' = (hp_SH ++ dy, g', r) ∧ fr_ (mo_ 0) g g' ∧ (∀ i, g' 63 i = g 63 i ∧ g' 64 i = g 64 i) ∧ rw_ g' 0 (fun _ => 0, fun _ => 0)) 0 0 (2, [some (.ref 52), some (.int (nI i))], [], (hp_SH ++ dy, g1, r)) := by
  intro m
  induction m with
  | zero =>
    intro i g1 hi hF hN h
    refine mm_I ok_Mo_begins 2 2 4 [some (.ref 52), some (.int (nI i))] [.int 4, .int (nI i)] (hp_SH ++ dy, g1, r) [] rfl trivial rfl rfl (fun _ => ?_) (fun q => False.elim (q (nI_le (a := 4) (by omega) (by omega))))
    exact mm_r0 rfl (mm_at ok_Mo_begins (i := 17) rfl).1 ⟨Nat.le_refl _, Nat.le_refl _⟩ (⟨rfl, g1, rfl, hF, hN, fun l hl => by have h9 := h l (by omega); rw [Nat.mul_zero, Nat.zero_add, h9.1, h9.2]; exact ⟨rfl, rfl⟩⟩)
  | succ m ih =>
    intro i g1 hi hF hN h
    refine mm_I ok_Mo_begins 2 2 4 [some (.ref 52), some (.int (nI i))] [.int 4, .int (nI i)] (hp_SH ++ dy, g1, r) [] rfl trivial rfl rfl (fun q => False.elim (absurd q (nI_ge (b := 4) (show i < 4 by omega) (by decide)))) (fun _ => ?_)
    refine mm_B ok_Mo_begins 5 12 (2, [some (.ref 52), some (.int ((nI i) + 1))], [], (hp_SH ++ dy, mm_up (mm_up g1 65 ((nI i).toNatClampNeg) 0) 66 ((nI i).toNatClampNeg) (-1), r)) [vp_in (nI i) 28, vp_in (nI i) 28] rfl (show (vp_in (nI i) 28) ∧ (vp_in (nI i) 28) from ⟨(nI_vi (by omega) (by decide)), (nI_vi (by omega) (by decide))⟩) ?_
    rw [nI_1, nI_clamp (show i < 2 ^ 31 by omega)]
    have e65 : mo_ 0 65 i = true := by have := mo_in (b := 0) (l := i) (k := 65) (by omega) (Or.inl rfl); rwa [Nat.mul_zero, Nat.zero_add] at this
    have e66 : mo_ 0 66 i = true := by have := mo_in (b := 0) (l := i) (k := 66) (by omega) (Or.inr rfl); rwa [Nat.mul_zero, Nat.zero_add] at this
    exact ih (i + 1) _ (by omega) ((hF.up _ e65).up _ e66) hN (fun j hj => by
      by_cases e : j = i
      · rw [e, mm_up_at]
        exact ⟨mm_up_at g1 65 i 0, rfl⟩
      · rw [mm_up_no e]
        refine ⟨?_, (h j (by omega)).2⟩
        show mm_up g1 65 i 0 65 j = 0
        rw [mm_up_no e]
        exact (h j (by omega)).1)
theorem ct_Mo_begins (dy : List mm_Sh) (g : Nat → Nat → Int32) (r : (Nat → Nat → Int64) × Nat × (Nat → Int32)) : mm_Ct 1 M_Mo_begins [.ref 52] (hp_SH ++ dy, g, r) 0 0 (fun v h' => v = none ∧ ∃ g', h' = (hp_SH ++ dy, g', r) ∧ fr_ (mo_ 0) g g' ∧ (∀ i, g' 63 i = g 63 i ∧ g' 64 i = g 64 i) ∧ rw_ g' 0 (fun _ => 0, fun _ => 0)) := by
  refine mm_start pl_Mo (Nat.le_of_ble_eq_true rfl) ?_
  refine mm_B ok_Mo_begins 0 2 (2, [some (.ref 52), some (.int 0)], [], (hp_SH ++ dy, g, r)) [] rfl trivial ?_
  exact be_go dy g r 4 0 g (by omega) fr_.rf (fun _ => ⟨rfl, rfl⟩) (fun j hj => absurd hj (Nat.not_lt_zero j))

