/-! ===== fields and arrays over the picture ===== -/
/-- a field's link: pool place idx of class own is field y of class number ci -/
def mm_lk (own : String) (idx ci y : Nat) : Prop := ∃ q : vw_C, vwCl[ci]? = some q ∧ y < q.2.2 ∧ Cond.fieldLink own idx q.1 (q.2.1 y).2.1 (q.2.1 y).2.2.1 ∈ mm_G ∧ (q.2.1 y).1 = q.1
theorem mm_set_self {α : Type} {l : List α} {k : Nat} {c : α} (h : l[k]? = some c) : l = l.set k c := by
  apply List.ext_getElem?
  intro j
  by_cases e : j = k
  · subst e
    rw [List.getElem?_set_self (List.getElem?_eq_some_iff.mp h).1, h]
  · rw [List.getElem?_set_ne (fun q => e q.symm)]
theorem mm_lay_len {X : mm_X} {ad : Nat → Nat} {h : mm_Hp} : (mm_lay X ad h).length = h.1.length := List.length_mapIdx
theorem mm_lay_set {X : mm_X} {ad : Nat → Nat} {h h' : mm_Hp} {k : Nat} {c c' : mm_Sh} {e : va_E} (hk : h.1[k]? = some c) (hl : h'.1 = h.1.set k c') (ho : ∀ j, j ≠ k → ∀ c, mm_cv X ad h' j c = mm_cv X ad h j c) (he : mm_cv X ad h' k c' = e) : mm_lay X ad h' = (mm_lay X ad h).set k (ad k, e) := by
  have hlt : k < h.1.length := (List.getElem?_eq_some_iff.mp hk).1
  have hlt2 : k < (mm_lay X ad h).length := by rw [mm_lay_len]; exact hlt
  refine List.ext_getElem? (fun j => ?_)
  have h1 := mm_lay_get (X := X) (ad := ad) (h := h') j
  have h2 := mm_lay_get (X := X) (ad := ad) (h := h) j
  rw [h1]
  by_cases ej : j = k
  · have h3 : h'.1[j]? = some c' := by rw [hl, ej]; exact List.getElem?_set_self hlt
    have h4 : ((mm_lay X ad h).set k (ad k, e))[j]? = some (ad k, e) := by rw [ej]; exact List.getElem?_set_self hlt2
    rw [h3, h4, ← he, ej]
    rfl
  · have h3 : h'.1[j]? = h.1[j]? := by rw [hl]; exact List.getElem?_set_ne (fun q => ej q.symm)
    have h4 : ((mm_lay X ad h).set k (ad k, e))[j]? = (mm_lay X ad h)[j]? := List.getElem?_set_ne (fun q => ej q.symm)
    rw [h3, h4, h2]
    have h5 := ho j ej
    generalize h.1[j]? = z
    cases z with
    | none => rw [Option.map_none, Option.map_none]
    | some c => rw [Option.map_some, Option.map_some, h5 c]
theorem mm_up_ne {g : Nat → Nat → Int32} {k j y : Nat} {a : Int32} (h : j ≠ k) : mm_up g k y a j = g j := by
  funext i
  simp [mm_up, beq_false_of_ne h]
theorem mm_up_eq (g : Nat → Nat → Int32) (k y : Nat) (a : Int32) : mm_up g k y a k = upd (g k) y a := by
  funext i
  by_cases e : i = y
  · subst e; simp [mm_up, upd]
  · simp [mm_up, upd, e, beq_false_of_ne e]
theorem mm_ul_ne {g : Nat → Nat → Int64} {k j y : Nat} {a : Int64} (h : j ≠ k) : mm_ul g k y a j = g j := by
  funext i
  simp [mm_ul, beq_false_of_ne h]
theorem mm_cv_up {X : mm_X} {ad : Nat → Nat} {h : mm_Hp} {k y j : Nat} {a : Int32} (hj : j ≠ k) (c : mm_Sh) : mm_cv X ad (h.1, mm_up h.2.1 k y a, h.2.2) j c = mm_cv X ad h j c := by
  cases c with
  | inl x => simp only [mm_cv, mm_up_ne hj]
  | inr o =>
    simp only [mm_cv]
    congr 3
    funext i c
    match c with
    | 0 => simp only [mm_cF, mm_up_ne hj]
    | 1 => rfl
    | 2 => rfl
    | c + 3 => rfl
theorem mm_cv_ul {X : mm_X} {ad : Nat → Nat} {h : mm_Hp} {k y j : Nat} {a : Int64} (hj : j ≠ k) (c : mm_Sh) : mm_cv X ad (h.1, h.2.1, mm_ul h.2.2.1 k y a, h.2.2.2) j c = mm_cv X ad h j c := by
  cases c with
  | inl x => rfl
  | inr o =>
    simp only [mm_cv]
    congr 3
    funext i c
    match c with
    | 0 => rfl
    | 1 => simp only [mm_cF, mm_ul_ne hj]
    | 2 => rfl
    | c + 3 => rfl
theorem mm_fs_set {ad : Nat → Nat} {h h' : mm_Hp} {k y : Nat} {fs fs' : List Nat} {v : Value} {c c' : Nat} (hy : fs[y]? = some c) (hf : fs' = fs.set y c') (hv : mm_cF ad h' k y c' = v) (ho : ∀ i, i ≠ y → ∀ c, mm_cF ad h' k i c = mm_cF ad h k i c) : fs'.mapIdx (fun j c => mm_cF ad h' k j c) = (fs.mapIdx (fun j c => mm_cF ad h k j c)).set y v := by
  have hlt : y < fs.length := (List.getElem?_eq_some_iff.mp hy).1
  subst hf
  apply List.ext_getElem?
  intro j
  by_cases e : j = y
  · subst e
    rw [List.getElem?_mapIdx, List.getElem?_set_self hlt, List.getElem?_set_self (by rw [List.length_mapIdx]; exact hlt), ← hv]
    rfl
  · rw [List.getElem?_mapIdx, List.getElem?_set_ne (fun q => e q.symm), List.getElem?_set_ne (fun q => e q.symm), List.getElem?_mapIdx]
    cases fs[j]? with
    | none => rfl
    | some c => simp [ho j e c]
section
variable {d : Nat} {M : mm_M} {mc ms : Nat} {Q : Option Value → mm_Hp → Prop} {nc ns pc : Nat} {lv : mm_L} {st : List Value} {h : mm_Hp}
theorem mm_get {k ci y idx cd : Nat} {fs : List Nat} (hlk : mm_lk M.1.cls idx ci y) (hs : h.1[k]? = some (.inr (ci, fs))) (hf : fs[y]? = some cd) (hd : decode M.2.1 pc = .ok (.getfield idx, 3)) (kk : mm_W d M mc ms Q nc ns (pc + 3, lv, mm_vF h k y cd :: st, h)) : mm_W d M mc ms Q nc ns (pc, lv, .ref k :: st, h) := by
  intro p l e s m args below meth c X ad0 n0 ad H locs ls C ha hn hR hS hl
  have k' := kk p l e s m args below meth c X ad0 n0 ad H locs ls C ha hn hR hS hl
  obtain ⟨hx, hb, hml, hr, hlo, hown, hts, hnm, hT, hO⟩ := C
  obtain ⟨q, hc, hy, hl1, hl2⟩ := hlk
  obtain ⟨hty, hnm2, hin⟩ := mm_cls hc
  simp only [List.map_cons, mm_rv_vF] at k'
  refine va_get (D := X.1) (cl := vwCl) (ci := ci) (C := q.1) (T := q.2.1) (N := q.2.2) hx hb hts hin hown hT.1 hR.1 k (mm_lay_at hs) hc y hy (hts _ hl1) (fun x hx => by rw [hl2] at hx; exact hx) (v := mm_cF ad h k y cd) ?_ hd k'
  rw [List.getElem?_mapIdx, hf]
  rfl
/-- a value that goes into a field, and what the picture is then -/
def mm_pf (h : mm_Hp) (k y ci : Nat) (fs : List Nat) (t : FieldType) (v : Value) (c : Nat) : Option (List Prop × mm_Hp) :=
  match t, v, c with
  | .int, .int a, 0 => some ([], h.1, mm_up h.2.1 k y a, h.2.2)
  | .boolean, .int a, 0 => some ([a = 0 ∨ a = 1], h.1, mm_up h.2.1 k y a, h.2.2)
  | .long, .long a, 1 => some ([], h.1, h.2.1, mm_ul h.2.2.1 k y a, h.2.2.2)
  | .object _, .ref q, c + 2 => some ([], h.1.set k (.inr (ci, fs.set y (q + 3))), h.2)
  | .array _, .ref q, c + 2 => some ([], h.1.set k (.inr (ci, fs.set y (q + 3))), h.2)
  | _, _, _ => none
theorem mm_cF_up {ad : Nat → Nat} {h : mm_Hp} {k y i : Nat} {a : Int32} (hi : i ≠ y) (c : Nat) : mm_cF ad (h.1, mm_up h.2.1 k y a, h.2.2) k i c = mm_cF ad h k i c := by
  match c with
  | 0 => simp [mm_cF, mm_up, beq_false_of_ne hi]
  | 1 => rfl
  | 2 => rfl
  | c + 3 => rfl
theorem mm_cF_ul {ad : Nat → Nat} {h : mm_Hp} {k y i : Nat} {a : Int64} (hi : i ≠ y) (c : Nat) : mm_cF ad (h.1, h.2.1, mm_ul h.2.2.1 k y a, h.2.2.2) k i c = mm_cF ad h k i c := by
  match c with
  | 0 => rfl
  | 1 => simp [mm_cF, mm_ul, beq_false_of_ne hi]
  | 2 => rfl
  | c + 3 => rfl
theorem mm_pf_ok {X : mm_X} {ad : Nat → Nat} {h h' : mm_Hp} {k y ci : Nat} {fs : List Nat} {t : FieldType} {v : Value} {c : Nat} {cs : List Prop} (hs : h.1[k]? = some (.inr (ci, fs))) (hf : fs[y]? = some c) (hx : mm_pf h k y ci fs t v c = some (cs, h')) (hc : mm_all cs) :
    narrow t (mm_rv X ad v) = mm_rv X ad v ∧ fits t (mm_rv X ad v) = true ∧ mm_lay X ad h' = (mm_lay X ad h).set k (ad k, .inr (ci, (fs.mapIdx (fun j c => mm_cF ad h k j c)).set y (mm_rv X ad v))) ∧ h'.1.length = h.1.length ∧ h'.2.2.2 = h.2.2.2 := by
  unfold mm_pf at hx
  split at hx
  · rename_i a
    cases hx
    refine ⟨rfl, rfl, mm_lay_set hs (mm_set_self hs) (fun j hj c => mm_cv_up hj c) ?_, rfl, rfl⟩
    simp only [mm_cv]
    rw [mm_fs_set (v := mm_rv X ad (.int a)) hf (mm_set_self hf) ?_ (fun i hi c => mm_cF_up hi c)]
    simp [mm_cF, mm_up, mm_rv]
  · rename_i a
    cases hx
    have hn : narrow .boolean (.int a) = .int a ∧ fits .boolean (.int a) = true := by
      rcases hc with rfl | rfl <;> exact ⟨by decide +kernel, by decide +kernel⟩
    refine ⟨hn.1, hn.2, mm_lay_set hs (mm_set_self hs) (fun j hj c => mm_cv_up hj c) ?_, rfl, rfl⟩
    simp only [mm_cv]
    rw [mm_fs_set (v := mm_rv X ad (.int a)) hf (mm_set_self hf) ?_ (fun i hi c => mm_cF_up hi c)]
    simp [mm_cF, mm_up, mm_rv]
  · rename_i a
    cases hx
    refine ⟨rfl, rfl, mm_lay_set hs (mm_set_self hs) (fun j hj c => mm_cv_ul hj c) ?_, rfl, rfl⟩
    simp only [mm_cv]
    rw [mm_fs_set (v := mm_rv X ad (.long a)) hf (mm_set_self hf) ?_ (fun i hi c => mm_cF_ul hi c)]
    simp [mm_cF, mm_ul, mm_rv]
  · rename_i q c
    cases hx
    refine ⟨rfl, rfl, mm_lay_set hs rfl (fun j hj c => by cases c <;> rfl) ?_, by rw [List.length_set], rfl⟩
    simp only [mm_cv]
    rw [mm_fs_set (h := h) (v := mm_rv X ad (.ref q)) hf rfl rfl (fun i hi c => by
      match c with
      | 0 => rfl
      | 1 => rfl
      | 2 => rfl
      | c + 3 => rfl)]
  · rename_i q c
    cases hx
    refine ⟨rfl, rfl, mm_lay_set hs rfl (fun j hj c => by cases c <;> rfl) ?_, by rw [List.length_set], rfl⟩
    simp only [mm_cv]
    rw [mm_fs_set (h := h) (v := mm_rv X ad (.ref q)) hf rfl rfl (fun i hi c => by
      match c with
      | 0 => rfl
      | 1 => rfl
      | 2 => rfl
      | c + 3 => rfl)]
  · cases hx
theorem mm_put {k ci y idx cd : Nat} {fs : List Nat} {v : Value} {cs : List Prop} {h' : mm_Hp} (hlk : mm_lk M.1.cls idx ci y) (hfin : ∀ q, vwCl[ci]? = some q → (q.2.1 y).2.2.2 = true → M.1.name = "<init>" ∧ q.1 = M.1.cls) (hs : h.1[k]? = some (.inr (ci, fs))) (hf : fs[y]? = some cd) (hx : mm_pf h k y ci fs (mm_ty ci y) v cd = some (cs, h')) (hcs : mm_all cs) (hd : decode M.2.1 pc = .ok (.putfield idx, 3)) (kk : mm_W d M mc ms Q nc ns (pc + 3, lv, st, h')) : mm_W d M mc ms Q nc ns (pc, lv, v :: .ref k :: st, h) := by
  intro p l e s m args below meth c X ad0 n0 ad H locs ls C ha hn hR hS hl
  have C' := C
  obtain ⟨hx0, hb, hml, hr, hlo, hown, hts, hnm, hT, hO⟩ := C'
  obtain ⟨q, hc, hy, hl1, hl2⟩ := hlk
  obtain ⟨hty, hnm2, hin⟩ := mm_cls hc
  obtain ⟨e1, e2, e3, e4, e5⟩ := mm_pf_ok (X := X) (ad := ad) hs hf hx hcs
  have hlen : y < (fs.mapIdx (fun j c => mm_cF ad h k j c)).length := by rw [List.length_mapIdx]; exact (List.getElem?_eq_some_iff.mp hf).1
  by_cases hfi : (q.2.1 y).2.2.2 = true
  · obtain ⟨hi1, hi2⟩ := hfin q hc hfi
    refine va_putF (D := X.1) (cl := vwCl) (ci := ci) (C := q.1) (T := q.2.1) (N := q.2.2) hx0 hb hts hin (mm_ty ci) hty hnm2 hown hT.1 hR.1 hR.2.1 hS k (mm_lay_at hs) hc y hy (hts _ hl1) (fun x hx => by rw [hl2] at hx; exact hx) hfi (hnm.trans hi1) (hl2.trans hi2) (hty y hy) e1 e2 hlen hd (fun H1 locs1 hP1 hD1 hS1 => ?_)
    exact kk p l e s m args below meth c X ad0 n0 ad H1 locs1 ls C ha (by rw [show (pc + 3, lv, st, h').2.2.2.1.length = h.1.length from e4]; exact hn) ⟨by rw [e3]; exact hP1, by rw [e3]; exact hD1, e5.trans hR.2.2⟩ hS1 hl
  · refine va_put (D := X.1) (cl := vwCl) (ci := ci) (C := q.1) (T := q.2.1) (N := q.2.2) hx0 hb hts hin (mm_ty ci) hty hnm2 hown hT.1 hR.1 hR.2.1 hS k (mm_lay_at hs) hc y hy (hts _ hl1) (fun x hx => by rw [hl2] at hx; exact hx) (by simpa using hfi) (hty y hy) e1 e2 hlen hd (fun H1 locs1 hP1 hD1 hS1 => ?_)
    exact kk p l e s m args below meth c X ad0 n0 ad H1 locs1 ls C ha (by rw [show (pc + 3, lv, st, h').2.2.2.1.length = h.1.length from e4]; exact hn) ⟨by rw [e3]; exact hP1, by rw [e3]; exact hD1, e5.trans hR.2.2⟩ hS1 hl
end
