/-! ===== a method's walk over the picture ===== -/
/-- the locals hold lv -/
def mm_lh (X : mm_X) (ad : Nat → Nat) (ls : Array Slot) (nL : Nat) (lv : mm_L) : Prop := lv.length = nL ∧ ls.size = nL ∧ lv_wf ls ∧ ∀ (i : Nat) (v : Value), lv[i]? = some (some v) → ls[i]? = some (.val (mm_rv X ad v))
def mm_as (X : mm_X) (ad : Nat → Nat) (lv : mm_L) : List (Nat × Value) := (List.range lv.length).filterMap (fun i => match lv[i]? with
  | some (some v) => some (i, mm_rv X ad v)
  | _ => none)
theorem mm_as_in {X : mm_X} {ad : Nat → Nat} {lv : mm_L} {i : Nat} {w : Value} : (i, w) ∈ mm_as X ad lv ↔ ∃ v, lv[i]? = some (some v) ∧ w = mm_rv X ad v := by
  unfold mm_as
  rw [List.mem_filterMap]
  constructor
  · rintro ⟨j, -, hj⟩
    split at hj
    · rename_i v hv
      cases hj
      exact ⟨v, hv, rfl⟩
    · cases hj
  · rintro ⟨v, hv, rfl⟩
    refine ⟨i, List.mem_range.mpr (List.getElem?_eq_some_iff.mp hv).1, ?_⟩
    rw [hv]
theorem mm_lh.has {X : mm_X} {ad : Nat → Nat} {ls : Array Slot} {nL : Nat} {lv : mm_L} (h : mm_lh X ad ls nL lv) : lv_has ls nL (mm_as X ad lv) := by
  refine ⟨h.2.1, h.2.2.1, fun q hq => ?_⟩
  obtain ⟨v, hv, e⟩ := mm_as_in.mp (show (q.1, q.2) ∈ _ from hq)
  rw [e]
  exact h.2.2.2 _ _ hv
/-- no long ends at the place ahead -/
def mm_pr (lv : mm_L) : Nat → Bool
  | 0 => true
  | i + 1 => match lv[i]? with
    | some (some v) => v.category == 1
    | _ => true
theorem mm_pr_ne {X : mm_X} {ad : Nat → Nat} {lv : mm_L} {i j : Nat} {v : Value} (hp : mm_pr lv i = true) (hv : lv[j]? = some (some v)) : (j + 1 == i && (mm_rv X ad v).category == 2) = false := by
  rw [mm_rv_cat]
  cases i with
  | zero => simp
  | succ i =>
    by_cases e : j = i
    · subst e
      simp only [mm_pr, hv, beq_iff_eq] at hp
      simp [hp]
    · simp [e]
theorem mm_lh.st1 {X : mm_X} {ad : Nat → Nat} {ls ls' : Array Slot} {nL : Nat} {lv : mm_L} {i : Nat} {v : Value} (h : mm_lh X ad ls nL lv) (hp : mm_pr lv i = true) (h' : lv_has ls' nL ((i, mm_rv X ad v) :: (mm_as X ad lv).filter (fun q => !(q.1 == i) && !(q.1 + 1 == i && q.2.category == 2)))) : mm_lh X ad ls' nL (lv.set i (some v)) := by
  refine ⟨by rw [List.length_set]; exact h.1, h'.1, h'.2.1, fun j w hw => ?_⟩
  refine h'.2.2 (j, mm_rv X ad w) ?_
  by_cases e : j = i
  · subst e
    rw [List.getElem?_set_self (by have := (List.getElem?_eq_some_iff.mp hw).1; rwa [List.length_set] at this)] at hw
    cases hw
    exact List.mem_cons_self
  · rw [List.getElem?_set_ne (fun q => e q.symm)] at hw
    refine List.mem_cons_of_mem _ (List.mem_filter.mpr ⟨mm_as_in.mpr ⟨w, hw, rfl⟩, ?_⟩)
    simp only [mm_pr_ne (X := X) (ad := ad) hp hw]
    simp [e]
theorem mm_lh.st2 {X : mm_X} {ad : Nat → Nat} {ls ls' : Array Slot} {nL : Nat} {lv : mm_L} {i : Nat} {v : Value} (h : mm_lh X ad ls nL lv) (hp : mm_pr lv i = true) (h' : lv_has ls' nL ((i, mm_rv X ad v) :: (mm_as X ad lv).filter (fun q => !(q.1 == i) && (!(q.1 == i + 1) && !(q.1 + 1 == i && q.2.category == 2))))) : mm_lh X ad ls' nL ((lv.set i (some v)).set (i + 1) none) := by
  refine ⟨by rw [List.length_set, List.length_set]; exact h.1, h'.1, h'.2.1, fun j w hw => ?_⟩
  refine h'.2.2 (j, mm_rv X ad w) ?_
  by_cases e1 : j = i + 1
  · subst e1
    rw [List.getElem?_set_self (by have := (List.getElem?_eq_some_iff.mp hw).1; rwa [List.length_set] at this)] at hw
    cases hw
  · rw [List.getElem?_set_ne (fun q => e1 q.symm)] at hw
    by_cases e : j = i
    · subst e
      rw [List.getElem?_set_self (by have := (List.getElem?_eq_some_iff.mp hw).1; rwa [List.length_set] at this)] at hw
      cases hw
      exact List.mem_cons_self
    · rw [List.getElem?_set_ne (fun q => e q.symm)] at hw
      refine List.mem_cons_of_mem _ (List.mem_filter.mpr ⟨mm_as_in.mpr ⟨w, hw, rfl⟩, ?_⟩)
      simp only [mm_pr_ne (X := X) (ad := ad) hp hw]
      simp [e, e1]
/-- a method's locals at its entry -/
def mm_sp : List Value → mm_L
  | [] => []
  | v :: vs => match v.category with
    | 2 => some v :: none :: mm_sp vs
    | _ => some v :: mm_sp vs
def mm_in (as : List Value) (n : Nat) : mm_L := mm_sp as ++ List.replicate (n - (mm_sp as).length) none
theorem mm_sp_len {X : mm_X} {ad : Nat → Nat} (as : List Value) : (lg_sl (as.map (mm_rv X ad))).length = (mm_sp as).length := by
  induction as with
  | nil => rfl
  | cons v vs ih =>
    have e : lg_sl ((v :: vs).map (mm_rv X ad)) = (if (mm_rv X ad v).category = 2 then [.val (mm_rv X ad v), .second] else [.val (mm_rv X ad v)]) ++ lg_sl (vs.map (mm_rv X ad)) := rfl
    rw [e, List.length_append, ih, mm_rv_cat]
    rcases lv_cat v with h | h <;> simp [mm_sp, h] <;> omega
theorem mm_sp_in {X : mm_X} {ad : Nat → Nat} (as : List Value) : ∀ (b i : Nat) (v : Value), (mm_sp as)[i]? = some (some v) → (b + i, mm_rv X ad v) ∈ lv_args b (as.map (mm_rv X ad)) := by
  induction as with
  | nil => intro b i v h; simp [mm_sp] at h
  | cons w ws ih =>
    intro b i v h
    have e : lv_args b ((w :: ws).map (mm_rv X ad)) = (b, mm_rv X ad w) :: lv_args (if (mm_rv X ad w).category = 2 then b + 2 else b + 1) (ws.map (mm_rv X ad)) := rfl
    rw [e, mm_rv_cat]
    rcases lv_cat w with hc | hc
    · simp only [mm_sp, hc] at h
      rw [if_neg (by omega)]
      cases i with
      | zero => simp at h; subst h; simp
      | succ i =>
        have := ih (b + 1) i v (by simpa using h)
        rw [show b + 1 + i = b + (i + 1) by omega] at this
        exact List.mem_cons_of_mem _ this
    · simp only [mm_sp, hc] at h
      rw [if_pos hc]
      cases i with
      | zero => simp at h; subst h; simp
      | succ i =>
        cases i with
        | zero => simp at h
        | succ i =>
          have := ih (b + 2) i v (by simpa using h)
          rw [show b + 2 + i = b + (i + 1 + 1) by omega] at this
          exact List.mem_cons_of_mem _ this
theorem mm_entry {X : mm_X} {ad : Nat → Nat} (as : List Value) {n : Nat} (h : (mm_sp as).length ≤ n) : mm_lh X ad ((lg_sl (as.map (mm_rv X ad)) ++ List.replicate (n - (lg_sl (as.map (mm_rv X ad))).length) Slot.unset).toArray) n (mm_in as n) := by
  obtain ⟨h1, h2, h3⟩ := lv_entry (as.map (mm_rv X ad)) (n := n) (by rw [mm_sp_len]; exact h)
  refine ⟨by simp [mm_in]; omega, h1, h2, fun i v hv => ?_⟩
  unfold mm_in at hv
  by_cases hl : i < (mm_sp as).length
  · rw [List.getElem?_append_left hl] at hv
    have := h3 _ (mm_sp_in (X := X) (ad := ad) as 0 i v hv)
    simpa using this
  · rw [List.getElem?_append_right (by omega)] at hv
    have := List.mem_of_getElem? hv
    simp at this
def mm_C (p : Program) (s : State) (m : MethodId) (args : Array Value) (meth : Method) (c : Code) (M : mm_M) (X : mm_X) : Prop :=
  p.tables.exec = Jvm.exec ∧ c.code = M.2.1 ∧ c.maxLocals = M.2.2.1 ∧ meth.sig.returnType = M.2.2.2 ∧ meth.locks = false ∧ s.vm.findClass M.1.cls = some m.cls ∧ (∀ w ∈ mm_G, w.before args s = true) ∧ meth.name = M.1.name ∧ mm_T X s ∧ mm_O X s s.heap
def mm_R (d mc ms : Nat) : Room := { frames := d, cells := mc, slots := ms, locals := 41 * d + 32 }
/-- a method's end: its answer, the picture behind it, at addresses that go on the old ones -/
def mm_Q (X : mm_X) (ad0 : Nat → Nat) (n0 : Nat) (Q : Option Value → mm_Hp → Prop) : Array Value → State → Outcome → State → Prop := fun _ st o t =>
  (∃ (v : Option Value) (h : mm_Hp) (ad : Nat → Nat), o = .returned (v.map (mm_rv X ad)) ∧ Q v h ∧ mm_Rel X ad h t.heap ∧ (∀ k, k < n0 → ad k = ad0 k) ∧ n0 ≤ h.1.length) ∧ va_F (mm_A X) st t
/-- the walk from a state of the picture on: the method returns, and Q holds of its answer and the picture then -/
def mm_W (d : Nat) (M : mm_M) (mc ms : Nat) (Q : Option Value → mm_Hp → Prop) (nc ns : Nat) (σ : mm_S) : Prop :=
  ∀ (p : Program) (l : Launch) (e : Env) (s : State) (m : MethodId) (args : Array Value) (below : List Frame) (meth : Method) (c : Code) (X : mm_X) (ad0 : Nat → Nat) (n0 : Nat) (ad : Nat → Nat) (H : Heap) (locs : List Loc) (ls : Array Slot),
    mm_C p s m args meth c M X → (∀ k, k < n0 → ad k = ad0 k) → n0 ≤ σ.2.2.2.1.length → mm_Rel X ad σ.2.2.2 H → va_S (mm_A X) s.heap H locs → mm_lh X ad ls M.2.2.1 σ.2.1 →
    W p l e (mm_R d mc ms) s m args below meth c H locs nc ns (MQ below (mm_Q X ad0 n0 Q) args s mc ms (mm_A X)) (F0 m σ.1 ls (σ.2.2.1.map (mm_rv X ad)))
def mm_P (X : mm_X) (ad : Nat → Nat) (as : List Value) (h : mm_Hp) : Array Value → State → Prop := fun a U => a = (as.map (mm_rv X ad)).toArray ∧ mm_T X U ∧ mm_O X U U.heap ∧ mm_Rel X ad h U.heap
/-- a method's contract over the picture: from these arguments and this picture it returns, with Q -/
def mm_Ct (d : Nat) (M : mm_M) (as : List Value) (h : mm_Hp) (mc ms : Nat) (Q : Option Value → mm_Hp → Prop) : Prop :=
  ∀ (l : Launch) (X : mm_X) (ad : Nat → Nat), Met l M.1 (.code M.1 M.2.1 M.2.2.1 M.2.2.2 :: mm_G) (mm_R d mc ms) (mm_P X ad as h) (mm_Q X ad h.1.length Q) mc ms (mm_A X)
theorem mm_start {d : Nat} {M : mm_M} {as : List Value} {h : mm_Hp} {mc ms : Nat} {Q : Option Value → mm_Hp → Prop} (hp : plainName M.1.cls = true) (hl : (mm_sp as).length ≤ M.2.2.1) (k : mm_W d M mc ms Q 0 0 (0, mm_in as M.2.2.1, [], h)) : mm_Ct d M as h mc ms Q := by
  intro l X ad
  refine Met.ofW (cc := M.2.1) (maxL := M.2.2.1) (ret := M.2.2.2) hp rfl ?_
  intro p e s m args below meth c s₁ B hml hv
  obtain ⟨rfl, hT, hO, hR⟩ := hv
  have hts := atoms_spec (ws := .code M.1 M.2.1 M.2.2.1 M.2.2.2 :: mm_G) B.pre
  have hown : s.vm.findClass M.1.cls = some m.cls := findClass_of_methodNamed B.named
  rw [lg_entry_eq]
  exact k p l e s m _ below meth c X ad h.1.length ad s.heap [] _ ⟨B.exec, B.bytes, hml, B.returns, B.notSynchronized, hown, fun w hw => hts w (List.mem_cons_of_mem _ hw), (name_of_methodNamed B.named B.method).1, hT, hO⟩ (fun _ _ => rfl) (Nat.le_refl _) hR va_S.rf (mm_entry as hl)
