/-! ===== arrays over the picture ===== -/
section
variable {d : Nat} {M : mm_M} {mc ms : Nat} {Q : Option Value → mm_Hp → Prop} {nc ns pc : Nat} {lv : mm_L} {st : List Value} {h : mm_Hp}
theorem mm_iald {k n : Nat} {i : Int32} (hs : h.1[k]? = some (.inl (0, n))) (hi : vp_in i n) (hd : decode M.2.1 pc = .ok (.iaload, 1)) (kk : mm_W d M mc ms Q nc ns (pc + 1, lv, .int (h.2.1 k i.toNatClampNeg) :: st, h)) : mm_W d M mc ms Q nc ns (pc, lv, .int i :: .ref k :: st, h) := by
  intro p l e s m args below meth c X ad0 n0 ad H locs ls C ha hn hR hS hl
  have k' := kk p l e s m args below meth c X ad0 n0 ad H locs ls C ha hn hR hS hl
  obtain ⟨hx, hb, hml, hr, hlo, hown, hts, hnm, hT, hO⟩ := C
  exact va_iald (D := X.1) (cl := vwCl) hx hb hT.1 hR.1 k 0 (mm_lay_at hs) rfl hi hd k'
theorem mm_sald {u : UInt32} {i : Int32} (hi : vp_in i h.2.2.2.1) (hd : decode M.2.1 pc = .ok (.iaload, 1)) (kk : mm_W d M mc ms Q nc ns (pc + 1, lv, .int (h.2.2.2.2 i.toNatClampNeg) :: st, h)) : mm_W d M mc ms Q nc ns (pc, lv, .int i :: .float u :: st, h) := by
  intro p l e s m args below meth c X ad0 n0 ad H locs ls C ha hn hR hS hl
  have k' := kk p l e s m args below meth c X ad0 n0 ad H locs ls C ha hn hR hS hl
  obtain ⟨hx, hb, hml, hr, hlo, hown, hts, hnm, hT, hO⟩ := C
  have e1 : h.2.2.2 = X.2.2.2.2.2 := hR.2.2
  have hi : vp_in i h.2.2.2.1 := hi
  simp only [List.map_cons, mm_rv] at k' ⊢
  rw [e1] at hi
  rw [show (pc, lv, Value.int i :: Value.float u :: st, h).2.2.2.2.2.2.2 = X.2.2.2.2.2.2 from congrArg Prod.snd e1] at k'
  exact va_sld hx hb hO.2.2.1 (Nat.lt_of_lt_of_le hO.2.2.2.1 hO.2.2.2.2.1) (Nat.not_le.mpr hO.2.2.2.1) hS hi hd k'
theorem mm_slen {u : UInt32} (hd : decode M.2.1 pc = .ok (.arraylength, 1)) (kk : mm_W d M mc ms Q nc ns (pc + 1, lv, .int (nI h.2.2.2.1) :: st, h)) : mm_W d M mc ms Q nc ns (pc, lv, .float u :: st, h) := by
  intro p l e s m args below meth c X ad0 n0 ad H locs ls C ha hn hR hS hl
  have k' := kk p l e s m args below meth c X ad0 n0 ad H locs ls C ha hn hR hS hl
  obtain ⟨hx, hb, hml, hr, hlo, hown, hts, hnm, hT, hO⟩ := C
  have e1 : h.2.2.2 = X.2.2.2.2.2 := hR.2.2
  simp only [List.map_cons, mm_rv] at k' ⊢
  rw [show (pc, lv, Value.float u :: st, h).2.2.2.2.2.2.1 = X.2.2.2.2.2.1 from congrArg Prod.fst e1] at k'
  exact va_slen hx hb hO.2.2.1 (Nat.lt_of_lt_of_le hO.2.2.2.1 hO.2.2.2.2.1) (Nat.not_le.mpr hO.2.2.2.1) hS hd k'
theorem mm_zald {k n : Nat} {i : Int32} (hs : h.1[k]? = some (.inl (1, n))) (hi : vp_in i n) (hd : decode M.2.1 pc = .ok (.baload, 1)) (kk : mm_W d M mc ms Q nc ns (pc + 1, lv, .int (h.2.1 k i.toNatClampNeg) :: st, h)) : mm_W d M mc ms Q nc ns (pc, lv, .int i :: .ref k :: st, h) := by
  intro p l e s m args below meth c X ad0 n0 ad H locs ls C ha hn hR hS hl
  have k' := kk p l e s m args below meth c X ad0 n0 ad H locs ls C ha hn hR hS hl
  obtain ⟨hx, hb, hml, hr, hlo, hown, hts, hnm, hT, hO⟩ := C
  exact va_zald (D := X.1) (cl := vwCl) hx hb hT.1 hR.1 k 1 (mm_lay_at hs) rfl hi hd k'
theorem mm_ialn {k t n : Nat} (ht : t < 5) (hs : h.1[k]? = some (.inl (t, n))) (hd : decode M.2.1 pc = .ok (.arraylength, 1)) (kk : mm_W d M mc ms Q nc ns (pc + 1, lv, .int (nI n) :: st, h)) : mm_W d M mc ms Q nc ns (pc, lv, .ref k :: st, h) := by
  intro p l e s m args below meth c X ad0 n0 ad H locs ls C ha hn hR hS hl
  have k' := kk p l e s m args below meth c X ad0 n0 ad H locs ls C ha hn hR hS hl
  obtain ⟨hx, hb, hml, hr, hlo, hown, hts, hnm, hT, hO⟩ := C
  match t, ht, hs with
  | 0, _, hs => exact va_alen (D := X.1) (cl := vwCl) hx hb hT.1 hR.1 k 0 (mm_lay_at hs) rfl rfl hd k'
  | 1, _, hs => exact va_alen (D := X.1) (cl := vwCl) hx hb hT.1 hR.1 k 1 (mm_lay_at hs) rfl rfl hd k'
  | 2, _, hs => exact va_alen (D := X.1) (cl := vwCl) hx hb hT.1 hR.1 k 2 (mm_lay_at hs) rfl rfl hd k'
  | 3, _, hs => exact va_alen (D := X.1) (cl := vwCl) hx hb hT.1 hR.1 k 3 (mm_lay_at hs) rfl rfl hd k'
  | 4, _, hs => exact va_alen (D := X.1) (cl := vwCl) hx hb hT.1 hR.1 k 4 (mm_lay_at hs) rfl rfl hd k'
theorem mm_lay_ia {X : mm_X} {ad : Nat → Nat} {k t n j : Nat} {a : Int32} (ht : t < 2) (hs : h.1[k]? = some (.inl (t, n))) : mm_lay X ad (h.1, mm_up h.2.1 k j a, h.2.2) = (mm_lay X ad h).set k (ad k, .inl (X.2.1 t, n, .inl (upd (h.2.1 k) j a))) := by
  refine mm_lay_set hs (mm_set_self hs) (fun j hj c => mm_cv_up hj c) ?_
  simp only [mm_cv, mm_up_eq, if_pos ht]
theorem mm_iast {k n : Nat} {i a : Int32} (hs : h.1[k]? = some (.inl (0, n))) (hi : vp_in i n) (hd : decode M.2.1 pc = .ok (.iastore, 1)) (kk : mm_W d M mc ms Q nc ns (pc + 1, lv, st, (h.1, mm_up h.2.1 k i.toNatClampNeg a, h.2.2))) : mm_W d M mc ms Q nc ns (pc, lv, .int a :: .int i :: .ref k :: st, h) := by
  intro p l e s m args below meth c X ad0 n0 ad H locs ls C ha hn hR hS hl
  have C' := C
  obtain ⟨hx, hb, hml, hr, hlo, hown, hts, hnm, hT, hO⟩ := C'
  refine va_iast (D := X.1) (cl := vwCl) hx hb hT.1 hR.1 hR.2.1 hS k 0 (mm_lay_at hs) rfl hi hd (fun H1 locs1 hP1 hD1 hS1 => ?_)
  have e3 := mm_lay_ia (X := X) (ad := ad) (j := i.toNatClampNeg) (a := a) (by decide) hs
  exact kk p l e s m args below meth c X ad0 n0 ad H1 locs1 ls C ha hn ⟨by rw [e3]; exact hP1, by rw [e3]; exact hD1, hR.2.2⟩ hS1 hl
theorem mm_zast {k n : Nat} {i a : Int32} (hs : h.1[k]? = some (.inl (1, n))) (hi : vp_in i n) (hz : vp_nar .boolean a = a) (hd : decode M.2.1 pc = .ok (.bastore, 1)) (kk : mm_W d M mc ms Q nc ns (pc + 1, lv, st, (h.1, mm_up h.2.1 k i.toNatClampNeg a, h.2.2))) : mm_W d M mc ms Q nc ns (pc, lv, .int a :: .int i :: .ref k :: st, h) := by
  intro p l e s m args below meth c X ad0 n0 ad H locs ls C ha hn hR hS hl
  have C' := C
  obtain ⟨hx, hb, hml, hr, hlo, hown, hts, hnm, hT, hO⟩ := C'
  refine va_zast (D := X.1) (cl := vwCl) hx hb hT.1 hR.1 hR.2.1 hS k 1 (mm_lay_at hs) rfl hi hd (fun H1 locs1 hP1 hD1 hS1 => ?_)
  rw [hz] at hP1 hD1
  have e3 := mm_lay_ia (X := X) (ad := ad) (j := i.toNatClampNeg) (a := a) (by decide) hs
  exact kk p l e s m args below meth c X ad0 n0 ad H1 locs1 ls C ha hn ⟨by rw [e3]; exact hP1, by rw [e3]; exact hD1, hR.2.2⟩ hS1 hl
/-- a place of an array of references -/
theorem mm_aald {k t n : Nat} {i : Int32} {v : Value} (ht : t = 2 ∨ t = 3 ∨ t = 4) (hs : h.1[k]? = some (.inl (t, n))) (hi : vp_in i n) (hv : mm_rf (h.2.1 k i.toNatClampNeg) = v) (hd : decode M.2.1 pc = .ok (.aaload, 1)) (kk : mm_W d M mc ms Q nc ns (pc + 1, lv, v :: st, h)) : mm_W d M mc ms Q nc ns (pc, lv, .int i :: .ref k :: st, h) := by
  intro p l e s m args below meth c X ad0 n0 ad H locs ls C ha hn hR hS hl
  have k' := kk p l e s m args below meth c X ad0 n0 ad H locs ls C ha hn hR hS hl
  subst hv
  obtain ⟨hx, hb, hml, hr, hlo, hown, hts, hnm, hT, hO⟩ := C
  simp only [List.map_cons, mm_rv_rf] at k'
  rcases ht with rfl | rfl | rfl
  · exact va_aldq (D := X.1) (cl := vwCl) hx hb hT.1 hR.1 k 2 (mm_lay_at hs) rfl hi hd k'
  · exact va_aldq (D := X.1) (cl := vwCl) hx hb hT.1 hR.1 k 3 (mm_lay_at hs) rfl hi hd k'
  · have hlt : i.toNatClampNeg < n := Nat.not_le.mp fun q => hi (Or.inr q)
    exact W.aald (v := va_rf (mm_rd ad (h.2.1 k i.toNatClampNeg))) (ty := .array .int) hx hb (hR.1 k _ (mm_lay_at hs)) ((hT.1.2 4 _ rfl).1 n (fun j => va_rf (mm_rd ad (h.2.1 k j)))) rfl (fun q => by cases q) (by show ¬ (i < 0 ∨ (arrV _ _ _).slots.size ≤ _); rw [arrV_size]; exact hi) (by show (arrV _ _ _).slots[_]? = _; rw [arrV_read _ _ hlt]) rfl rfl hd k'
theorem mm_rd_ref {ad : Nat → Nat} {q : Nat} (hq : q + 1 < 2 ^ 31) : mm_rd ad (nI (q + 1)) = some (ad q) := by
  unfold mm_rd
  rw [if_neg (nI_nle (by omega) hq), nI_clamp hq]
  rfl
theorem mm_lay_ra {X : mm_X} {ad : Nat → Nat} {k t n j q : Nat} (ht : ¬ t < 2) (hq : q + 1 < 2 ^ 31) (hs : h.1[k]? = some (.inl (t, n))) : mm_lay X ad (h.1, mm_up h.2.1 k j (nI (q + 1)), h.2.2) = (mm_lay X ad h).set k (ad k, .inl (X.2.1 t, n, .inr (.inr (.inr (.inr (va_up (fun i => mm_rd ad (h.2.1 k i)) j (some (ad q)))))))) := by
  refine mm_lay_set hs (mm_set_self hs) (fun j hj c => mm_cv_up hj c) ?_
  simp only [mm_cv, if_neg ht]
  congr 7
  funext i
  rw [mm_up_eq]
  by_cases e : i = j
  · subst e; simp [upd, va_up, mm_rd_ref hq]
  · simp [upd, va_up, e]
/-- a cell goes into an array of references: a Text among Texts, a Kind or one under it among Kinds -/
theorem mm_aast {k t n q ci : Nat} {i : Int32} {fs : List Nat} (ht : t = 2 ∧ ci = 10 ∨ t = 3 ∧ ci = 2 ∨ t = 3 ∧ ∃ r : vw_C, vwCl[ci]? = some r ∧ Cond.castable r.1 "SchoolOnRaft$Kind" ∈ mm_N) (hs : h.1[k]? = some (.inl (t, n))) (hi : vp_in i n) (hq : h.1[q]? = some (.inr (ci, fs))) (hq2 : q + 1 < 2 ^ 31) (hd : decode M.2.1 pc = .ok (.aastore, 1)) (kk : mm_W d M mc ms Q nc ns (pc + 1, lv, st, (h.1, mm_up h.2.1 k i.toNatClampNeg (nI (q + 1)), h.2.2))) : mm_W d M mc ms Q nc ns (pc, lv, .ref q :: .int i :: .ref k :: st, h) := by
  intro p l e s m args below meth c X ad0 n0 ad H locs ls C ha hn hR hS hl
  have C' := C
  obtain ⟨hx, hb, hml, hr, hlo, hown, hts, hnm, hT, hO⟩ := C'
  have e3 := fun ht => mm_lay_ra (h := h) (X := X) (ad := ad) (t := t) (n := n) (j := i.toNatClampNeg) (q := q) ht hq2 hs
  rcases ht with ⟨rfl, rfl⟩ | ⟨rfl, rfl⟩ | ⟨rfl, r, hr1, hr2⟩
  · refine va_astq (D := X.1) (cl := vwCl) hx hb hT.1 hR.1 hR.2.1 hS k 2 q 10 (r := (RX10, TX10, 3)) (mm_lay_at hs) rfl (mm_lay_at hq) rfl hi hd (fun H1 locs1 hP1 hD1 hS1 => ?_)
    exact kk p l e s m args below meth c X ad0 n0 ad H1 locs1 ls C ha hn ⟨by rw [e3 (by decide)]; exact hP1, by rw [e3 (by decide)]; exact hD1, hR.2.2⟩ hS1 hl
  · refine va_astq (D := X.1) (cl := vwCl) hx hb hT.1 hR.1 hR.2.1 hS k 3 q 2 (r := (RX2, TX2, 0)) (mm_lay_at hs) rfl (mm_lay_at hq) rfl hi hd (fun H1 locs1 hP1 hD1 hS1 => ?_)
    exact kk p l e s m args below meth c X ad0 n0 ad H1 locs1 ls C ha hn ⟨by rw [e3 (by decide)]; exact hP1, by rw [e3 (by decide)]; exact hD1, hR.2.2⟩ hS1 hl
  · refine va_astqO (D := X.1) (cl := vwCl) hx hb hT.1 hR.1 hR.2.1 hS k 3 q ci (r := r) (E := "SchoolOnRaft$Kind") (mm_lay_at hs) rfl (hT.2.1 _ hr2) (mm_lay_at hq) hr1 hi hd (fun H1 locs1 hP1 hD1 hS1 => ?_)
    exact kk p l e s m args below meth c X ad0 n0 ad H1 locs1 ls C ha hn ⟨by rw [e3 (by decide)]; exact hP1, by rw [e3 (by decide)]; exact hD1, hR.2.2⟩ hS1 hl
end
