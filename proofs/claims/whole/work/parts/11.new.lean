/-! ===== new cells, instanceof, copies ===== -/
def mm_fc : FieldType → Nat
  | .long => 1
  | .object _ => 2
  | .array _ => 2
  | _ => 0
/-- a new object's fields -/
def mm_df (ci n : Nat) : List Nat := (List.range n).map (fun j => mm_fc (mm_ty ci j))
def mm_ok1 (t : FieldType) : Bool := match t with
  | .int => true
  | .boolean => true
  | .long => true
  | .object _ => true
  | .array _ => true
  | _ => false
def mm_fin1 (ci n : Nat) : Bool := (List.range n).all (fun j => mm_ok1 (mm_ty ci j))
theorem mm_zero_i {h : mm_Hp} {c : mm_Sh} {j : Nat} : (mm_ad h c).2.1 h.1.length j = 0 := by
  show mm_zc h.2.1 h.1.length h.1.length j = 0
  simp [mm_zc]
theorem mm_zero_l {h : mm_Hp} {c : mm_Sh} {j : Nat} : (mm_ad h c).2.2.1 h.1.length j = 0 := by
  show mm_zl h.2.2.1 h.1.length h.1.length j = 0
  simp [mm_zl]
section
variable {d : Nat} {M : mm_M} {mc ms : Nat} {Q : Option Value → mm_Hp → Prop} {nc ns pc : Nat} {lv : mm_L} {st : List Value} {h : mm_Hp}
theorem mm_new {ci idx : Nat} {r : vw_C} (hrc : vwCl[ci]? = some r) (hf1 : mm_fin1 ci r.2.2 = true) (hcl : Cond.classLink M.1.cls idx r.1 ∈ mm_G) (hib : Cond.instantiable r.1 r.2.2 ∈ mm_G) (hini : Cond.initialized r.1 ∈ mm_G) (hd : decode M.2.1 pc = .ok (.new idx, 3)) (hm : nc + 1 ≤ mc ∧ ns + r.2.2 ≤ ms) (hw : mm_wf h) (hvs : mm_vs h.1.length lv st)
    (kk : mm_W d M mc ms Q (nc + 1) (ns + r.2.2) (pc + 3, lv, .ref h.1.length :: st, mm_ad h (.inr (ci, mm_df ci r.2.2)))) : mm_W d M mc ms Q nc ns (pc, lv, st, h) := by
  intro p l e s m args below meth c X ad0 n0 ad H locs ls C ha hn hR hS hl
  have C' := C
  obtain ⟨hx, hb, hml, hr, hlo, hown, hts, hnm, hT, hO⟩ := C'
  obtain ⟨hty, hnm2, hin⟩ := mm_cls hrc
  have hA : ∀ q : Nat, s.heap.size ≤ q → mm_A X q := fun q hq => Nat.le_trans hO.2.2.2.2.1 hq
  have hfs : ∀ q : Nat, mm_cv X (mm_ext ad h.1.length q) (mm_ad h (.inr (ci, mm_df ci r.2.2))) h.1.length (.inr (ci, mm_df ci r.2.2)) = .inr (ci, (List.range r.2.2).map (fun j => defaultValue (mm_ty ci j))) := by
    intro q
    simp only [mm_cv]
    congr 2
    apply List.ext_getElem?
    intro j
    rw [List.getElem?_mapIdx, List.getElem?_map]
    unfold mm_df
    rw [List.getElem?_map]
    by_cases hj : j < r.2.2
    · rw [List.getElem?_range hj, Option.map_some, Option.map_some, Option.map_some]
      have h1 := List.all_eq_true.mp hf1 j (List.mem_range.mpr hj)
      generalize mm_ty ci j = t at h1
      cases t <;> first | (cases h1; done) | rfl | exact congrArg (fun x => some (Value.int x)) mm_zero_i | exact congrArg (fun x => some (Value.long x)) mm_zero_l
    · rw [List.getElem?_eq_none (by rw [List.length_range]; omega)]
      rfl
  refine va_new (D := X.1) (cl := vwCl) (ci := ci) (C := r.1) (T := r.2.1) (N := r.2.2) (fs := (List.range r.2.2).map (fun j => defaultValue (mm_ty ci j))) hx hb hts hin (mm_ty ci) hty hown (hts _ hcl) (hts _ hib) (hts _ hini) hT.1 hR.1 hR.2.1 hS hA hrc ?_ hm.1 hm.2 hd (fun q H1 hP1 hD1 hS1 => ?_)
  · intro j hj
    simp [vp_V, hj]
  · have hag : ∀ k, k < h.1.length → mm_ext ad h.1.length q k = ad k := fun k hk => mm_ext_lt hk
    have e3 := mm_lay_ad (X := X) (ad := ad) (c' := .inr (ci, mm_df ci r.2.2)) (q := q) hw
    rw [hfs q] at e3
    have k' := kk p l e s m args below meth c X ad0 n0 (mm_ext ad h.1.length q) H1 locs ls C (fun k hk => (hag k (Nat.lt_of_lt_of_le hk hn)).trans (ha k hk)) (by show n0 ≤ (h.1 ++ [_]).length; rw [List.length_append]; exact Nat.le_trans hn (Nat.le_add_right _ _)) ⟨by rw [e3]; exact hP1, by rw [e3]; exact hD1, hR.2.2⟩ hS1 (hl.ext hag hvs.1)
    simp only [List.map_cons, mm_st_ext hag hvs.2] at k'
    rw [show mm_rv X (mm_ext ad h.1.length q) (.ref h.1.length) = .ref q from congrArg Value.ref (if_pos rfl)] at k'
    exact k'
/-- the array class of a type is one -/
theorem mm_uniq {X : mm_X} {s : State} {t : Nat} {ty : FieldType} {cA : ClassId} (hT : va_K X.1 vwCl (mm_tys X.2.1) s) (ht : (mm_tys X.2.1)[t]? = some (X.2.1 t, ty)) (hK : va_K X.1 vwCl (mm_tys X.2.1 ++ [(cA, ty)]) s) : cA = X.2.1 t := by
  have h1 := (hT.2 t _ ht).2
  have h2 := (hK.2 5 (cA, ty) rfl).2
  cases ty with
  | object C =>
    obtain ⟨_, _, _, _, _, e1⟩ := h1
    obtain ⟨_, _, _, _, _, e2⟩ := h2
    exact Option.some.inj (e2.symm.trans e1)
  | _ => exact Option.some.inj (Eq.trans (Eq.symm h2) h1)
theorem mm_addcell {nc' ns' : Nat} {c' : mm_Sh} {pc' : Nat} (hw : mm_wf h) (hvs : mm_vs h.1.length lv st) (kk : mm_W d M mc ms Q nc' ns' (pc', lv, .ref h.1.length :: st, mm_ad h c'))
    {p : Program} {l : Launch} {e : Env} {s : State} {m : MethodId} {args : Array Value} {below : List Frame} {meth : Method} {c : Code} {X : mm_X} {ad0 : Nat → Nat} {n0 : Nat} {ad : Nat → Nat} {H1 : Heap} {locs : List Loc} {ls : Array Slot} {q : Nat} {ev : va_E}
    (C : mm_C p s m args meth c M X) (ha : ∀ k, k < n0 → ad k = ad0 k) (hn : n0 ≤ h.1.length) (hR3 : h.2.2.2 = X.2.2.2.2.2) (hl : mm_lh X ad ls M.2.2.1 lv) (hev : mm_cv X (mm_ext ad h.1.length q) (mm_ad h c') h.1.length c' = ev) (hP1 : va_P X.1 vwCl (mm_lay X ad h ++ [(q, ev)]) H1) (hD1 : va_D (mm_A X) (mm_lay X ad h ++ [(q, ev)])) (hS1 : va_S (mm_A X) s.heap H1 locs) :
    W p l e (mm_R d mc ms) s m args below meth c H1 locs nc' ns' (MQ below (mm_Q X ad0 n0 Q) args s mc ms (mm_A X)) (F0 m pc' ls (.ref q :: st.map (mm_rv X ad))) := by
  have hag : ∀ k, k < h.1.length → mm_ext ad h.1.length q k = ad k := fun k hk => mm_ext_lt hk
  have e3 := mm_lay_ad (X := X) (ad := ad) (c' := c') (q := q) hw
  rw [hev] at e3
  have k' := kk p l e s m args below meth c X ad0 n0 (mm_ext ad h.1.length q) H1 locs ls C (fun k hk => (hag k (Nat.lt_of_lt_of_le hk hn)).trans (ha k hk)) (by show n0 ≤ (h.1 ++ [_]).length; rw [List.length_append]; exact Nat.le_trans hn (Nat.le_add_right _ _)) ⟨by rw [e3]; exact hP1, by rw [e3]; exact hD1, hR3⟩ hS1 (hl.ext hag hvs.1)
  simp only [List.map_cons, mm_st_ext hag hvs.2] at k'
  rw [show mm_rv X (mm_ext ad h.1.length q) (.ref h.1.length) = .ref q from congrArg Value.ref (if_pos rfl)] at k'
  exact k'
theorem mm_cell0 {X : mm_X} {ad : Nat → Nat} {t n : Nat} (ht : t < 2) : mm_cv X ad (mm_ad h (.inl (t, n))) h.1.length (.inl (t, n)) = .inl (X.2.1 t, n, .inl (fun _ => 0)) := by
  simp only [mm_cv, if_pos ht]
  congr 4
  funext i
  exact mm_zero_i
theorem mm_cellq {X : mm_X} {ad : Nat → Nat} {t n : Nat} (ht : ¬ t < 2) : mm_cv X ad (mm_ad h (.inl (t, n))) h.1.length (.inl (t, n)) = .inl (X.2.1 t, n, .inr (.inr (.inr (.inr (fun _ => none))))) := by
  simp only [mm_cv, if_neg ht]
  congr 7
  funext i
  rw [mm_zero_i]
  rfl
theorem mm_newi {n : Int32} {N : Nat} (harr : Cond.arrayClass .int ∈ mm_G) (hn0 : ¬ n < 0) (hN : n.toNatClampNeg = N) (hb0 : N ≤ 100000) (hd : decode M.2.1 pc = .ok (.newarray .int, 2)) (hm : nc + 1 ≤ mc ∧ ns + N ≤ ms) (hw : mm_wf h) (hvs : mm_vs h.1.length lv st)
    (kk : mm_W d M mc ms Q (nc + 1) (ns + N) (pc + 2, lv, .ref h.1.length :: st, mm_ad h (.inl (0, N)))) : mm_W d M mc ms Q nc ns (pc, lv, .int n :: st, h) := by
  intro p l e s m args below meth c X ad0 n0 ad H locs ls C ha hn hR hS hl
  have C' := C
  obtain ⟨hx, hb, hml, hr, hlo, hown, hts, hnm, hT, hO⟩ := C'
  have hA : ∀ q : Nat, s.heap.size ≤ q → mm_A X q := fun q hq => Nat.le_trans hO.2.2.2.2.1 hq
  refine va_newa (D := X.1) (cl := vwCl) (atype := .int) (ty := .int) (a0 := (N, .inl (fun _ => 0))) hx hb (hts _ harr) rfl hT.1 hR.1 hR.2.1 hS hA (fun cA => rfl) hn0 hN (by show N * 4 ≤ _; omega) hm.1 hm.2 hd (fun q cA H1 hK1 hP1 hD1 hS1 => ?_)
  have ec := mm_uniq (t := 0) hT.1 rfl hK1
  subst ec
  exact mm_addcell hw hvs kk C ha hn hR.2.2 hl (mm_cell0 (by decide)) hP1 hD1 hS1
theorem mm_newz {n : Int32} {N : Nat} (harr : Cond.arrayClass .boolean ∈ mm_G) (hn0 : ¬ n < 0) (hN : n.toNatClampNeg = N) (hb0 : N ≤ 100000) (hd : decode M.2.1 pc = .ok (.newarray .boolean, 2)) (hm : nc + 1 ≤ mc ∧ ns + N ≤ ms) (hw : mm_wf h) (hvs : mm_vs h.1.length lv st)
    (kk : mm_W d M mc ms Q (nc + 1) (ns + N) (pc + 2, lv, .ref h.1.length :: st, mm_ad h (.inl (1, N)))) : mm_W d M mc ms Q nc ns (pc, lv, .int n :: st, h) := by
  intro p l e s m args below meth c X ad0 n0 ad H locs ls C ha hn hR hS hl
  have C' := C
  obtain ⟨hx, hb, hml, hr, hlo, hown, hts, hnm, hT, hO⟩ := C'
  have hA : ∀ q : Nat, s.heap.size ≤ q → mm_A X q := fun q hq => Nat.le_trans hO.2.2.2.2.1 hq
  refine va_newa (D := X.1) (cl := vwCl) (atype := .boolean) (ty := .boolean) (a0 := (N, .inl (fun _ => 0))) hx hb (hts _ harr) rfl hT.1 hR.1 hR.2.1 hS hA (fun cA => rfl) hn0 hN (by show N * 1 ≤ _; omega) hm.1 hm.2 hd (fun q cA H1 hK1 hP1 hD1 hS1 => ?_)
  have ec := mm_uniq (t := 1) hT.1 rfl hK1
  subst ec
  exact mm_addcell hw hvs kk C ha hn hR.2.2 hl (mm_cell0 (by decide)) hP1 hD1 hS1
/-- an array of Texts (2), of Kinds (3) -/
theorem mm_newq {n : Int32} {N t idx : Nat} {Cn : String} (ht : t = 2 ∧ Cn = "SchoolOnRaft$Text" ∨ t = 3 ∧ Cn = "SchoolOnRaft$Kind") (hcl : Cond.classLink M.1.cls idx Cn ∈ mm_G) (hn0 : ¬ n < 0) (hN : n.toNatClampNeg = N) (hb0 : N ≤ 100000) (hd : decode M.2.1 pc = .ok (.anewarray idx, 3)) (hm : nc + 1 ≤ mc ∧ ns + N ≤ ms) (hw : mm_wf h) (hvs : mm_vs h.1.length lv st)
    (kk : mm_W d M mc ms Q (nc + 1) (ns + N) (pc + 3, lv, .ref h.1.length :: st, mm_ad h (.inl (t, N)))) : mm_W d M mc ms Q nc ns (pc, lv, .int n :: st, h) := by
  intro p l e s m args below meth c X ad0 n0 ad H locs ls C ha hn hR hS hl
  have C' := C
  obtain ⟨hx, hb, hml, hr, hlo, hown, hts, hnm, hT, hO⟩ := C'
  have hA : ∀ q : Nat, s.heap.size ≤ q → mm_A X q := fun q hq => Nat.le_trans hO.2.2.2.2.1 hq
  rcases ht with ⟨rfl, rfl⟩ | ⟨rfl, rfl⟩
  · refine va_newq (D := X.1) (cl := vwCl) hx hb hown (hts _ hcl) hT.2.2.1 hT.1 hR.1 hR.2.1 hS hA hn0 hN (by omega) hm.1 hm.2 hd (fun q cA H1 hK1 hP1 hD1 hS1 => ?_)
    have ec := mm_uniq (t := 2) hT.1 rfl hK1
    subst ec
    exact mm_addcell hw hvs kk C ha hn hR.2.2 hl (mm_cellq (by decide)) hP1 hD1 hS1
  · refine va_newq (D := X.1) (cl := vwCl) hx hb hown (hts _ hcl) hT.2.2.2.1 hT.1 hR.1 hR.2.1 hS hA hn0 hN (by omega) hm.1 hm.2 hd (fun q cA H1 hK1 hP1 hD1 hS1 => ?_)
    have ec := mm_uniq (t := 3) hT.1 rfl hK1
    subst ec
    exact mm_addcell hw hvs kk C ha hn hR.2.2 hl (mm_cellq (by decide)) hP1 hD1 hS1
/-- instanceof, of a receiver whose class is known -/
theorem mm_inst {q ci idx : Nat} {fs : List Nat} {r : vw_C} {Cn : String} {v : Int32} (hrc : vwCl[ci]? = some r) (hq : h.1[q]? = some (.inr (ci, fs))) (hcl : Cond.classLink M.1.cls idx Cn ∈ mm_G) (hv : (r.1 = Cn ∧ v = 1) ∨ (Cond.castable r.1 Cn ∈ mm_N ∧ v = 1) ∨ ((r.1, Cn) ∈ mm_nc ∧ v = 0)) (hd : decode M.2.1 pc = .ok (.instanceof idx, 3)) (kk : mm_W d M mc ms Q nc ns (pc + 3, lv, .int v :: st, h)) : mm_W d M mc ms Q nc ns (pc, lv, .ref q :: st, h) := by
  intro p l e s m args below meth c X ad0 n0 ad H locs ls C ha hn hR hS hl
  have k' := kk p l e s m args below meth c X ad0 n0 ad H locs ls C ha hn hR hS hl
  obtain ⟨hx, hb, hml, hr, hlo, hown, hts, hnm, hT, hO⟩ := C
  have hrv := va_recv hT.1 hR.1 hrc (mm_lay_at (X := X) (ad := ad) hq)
  rcases hv with ⟨h1, rfl⟩ | ⟨h1, rfl⟩ | ⟨h1, rfl⟩
  · subst h1
    exact va_instS hx hb hown (hts _ hcl) (hT.1.1 ci r hrc).2 hrv hd k'
  · exact va_instY hx hb hown (hts _ hcl) (hT.2.1 _ h1) hrv hd k'
  · exact va_instNo hx hb hown (hts _ hcl) (hT.2.2.2.2.2.1 _ h1) hrv hd k'
/-- System.arraycopy over int arrays -/
def mm_cp (g : Nat → Nat → Int32) (k0 k1 sp dp n : Nat) : Nat → Nat → Int32 := fun a b => bif a == k1 then va_cpy (g k0) (g k1) sp dp n b else g a b
theorem mm_lay_cp {X : mm_X} {ad : Nat → Nat} {k0 k1 n1 sp dp n : Nat} (hs : h.1[k1]? = some (.inl (0, n1))) : mm_lay X ad (h.1, mm_cp h.2.1 k0 k1 sp dp n, h.2.2) = (mm_lay X ad h).set k1 (ad k1, .inl (X.2.1 0, n1, .inl (va_cpy (h.2.1 k0) (h.2.1 k1) sp dp n))) := by
  refine mm_lay_set hs (mm_set_self hs) (fun j hj c => ?_) ?_
  · have e0 : mm_cp h.2.1 k0 k1 sp dp n j = h.2.1 j := by funext i; simp [mm_cp, beq_false_of_ne hj]
    cases c with
    | inl x => simp only [mm_cv, e0]
    | inr o =>
      simp only [mm_cv]
      congr 3
      funext i c
      match c with
      | 0 => simp only [mm_cF, e0]
      | 1 => rfl
      | 2 => rfl
      | c + 3 => rfl
  · have e0 : mm_cp h.2.1 k0 k1 sp dp n k1 = va_cpy (h.2.1 k0) (h.2.1 k1) sp dp n := by funext i; simp [mm_cp]
    simp only [mm_cv, e0, if_pos (show (0 : Nat) < 2 by decide)]
theorem mm_acopy {k0 k1 n0 n1 idx : Nat} {sp dp n : Int32} (hlk : Cond.methodLink M.1.cls idx arraycopyName ∈ mm_G) (hnat : Cond.native arraycopyName ∈ mm_G) (hst : Cond.static arraycopyName ∈ mm_G) (hini : Cond.initialized "java/lang/System" ∈ mm_G) (hs0 : h.1[k0]? = some (.inl (0, n0))) (hs1 : h.1[k1]? = some (.inl (0, n1))) (h1 : ¬ sp < 0) (h2 : ¬ dp < 0) (h3 : ¬ n < 0) (h4 : sp.toNatClampNeg + n.toNatClampNeg ≤ n0) (h5 : dp.toNatClampNeg + n.toNatClampNeg ≤ n1) (hdd : 1 ≤ d) (hcat : (st.map Value.category).sum ≤ 8) (hd : decode M.2.1 pc = .ok (.invokestatic idx, 3))
    (kk : mm_W d M mc ms Q nc ns (pc + 3, lv, st, (h.1, mm_cp h.2.1 k0 k1 sp.toNatClampNeg dp.toNatClampNeg n.toNatClampNeg, h.2.2))) : mm_W d M mc ms Q nc ns (pc, lv, .int n :: .int dp :: .ref k1 :: .int sp :: .ref k0 :: st, h) := by
  intro p l e s m args below meth c X ad0 n0' ad H locs ls C ha hn hR hS hl
  have C' := C
  obtain ⟨hx, hb, hml, hr, hlo, hown, hts, hnm, hT, hO⟩ := C'
  refine va_copyi (D := X.1) (cl := vwCl) hx hb (by rw [hml]; exact hl.2.1.symm) hown (hts _ hlk) (hts _ hnat) (hts _ hst) (hts _ hini) hT.1 hR.1 hR.2.1 hS k0 k1 0 0 (ty := .int) (mm_lay_at hs0) (mm_lay_at hs1) rfl rfl rfl h1 h2 h3 h4 h5 (fun _ _ => rfl) hdd ?_ hd (fun H1 locs1 hP1 hD1 hS1 => ?_)
  · have h8 := mm_cats (X := X) (ad := ad) hcat
    have h9 : nativeFrameWords "java/lang/System" "arraycopy" 5 + 11 ≤ 50 := by decide +kernel
    show _ ≤ 41 * d + 32
    omega
  · have e3 := mm_lay_cp (X := X) (ad := ad) (k0 := k0) (sp := sp.toNatClampNeg) (dp := dp.toNatClampNeg) (n := n.toNatClampNeg) hs1
    exact kk p l e s m args below meth c X ad0 n0' ad H1 locs1 ls C ha hn ⟨by rw [e3]; exact hP1, by rw [e3]; exact hD1, hR.2.2⟩ hS1 hl
end
