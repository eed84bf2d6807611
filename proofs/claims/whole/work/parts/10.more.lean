/-! ===== returns, branches, new cells, copies ===== -/
def mm_zc (g : Nat → Nat → Int32) (n : Nat) : Nat → Nat → Int32 := fun a b => bif a == n then 0 else g a b
def mm_zl (g : Nat → Nat → Int64) (n : Nat) : Nat → Nat → Int64 := fun a b => bif a == n then 0 else g a b
/-- the picture with a new cell, all 0 -/
def mm_ad (h : mm_Hp) (c : mm_Sh) : mm_Hp := (h.1 ++ [c], mm_zc h.2.1 h.1.length, mm_zl h.2.2.1 h.1.length, h.2.2.2)
/-- the references of the picture are cells of it -/
def mm_wf (h : mm_Hp) : Prop := ∀ (k : Nat) (c : mm_Sh), h.1[k]? = some c → (∀ a, c = .inl a → a.1 < 2 ∨ ∀ i, (h.2.1 k i).toNatClampNeg ≤ h.1.length) ∧ ∀ o, c = .inr o → ∀ f ∈ o.2, f < h.1.length + 3
theorem mm_zc_ne {g : Nat → Nat → Int32} {n j : Nat} (h : j ≠ n) : mm_zc g n j = g j := by
  funext i
  simp [mm_zc, beq_false_of_ne h]
theorem mm_zl_ne {g : Nat → Nat → Int64} {n j : Nat} (h : j ≠ n) : mm_zl g n j = g j := by
  funext i
  simp [mm_zl, beq_false_of_ne h]
def mm_ext (ad : Nat → Nat) (n q : Nat) : Nat → Nat := fun k => if k = n then q else ad k
theorem mm_ext_lt {ad : Nat → Nat} {n q k : Nat} (h : k < n) : mm_ext ad n q k = ad k := if_neg (Nat.ne_of_lt h)
theorem mm_cv_ad {X : mm_X} {ad : Nat → Nat} {h : mm_Hp} {c' c : mm_Sh} {q k : Nat} (hw : mm_wf h) (hk : h.1[k]? = some c) : mm_cv X (mm_ext ad h.1.length q) (mm_ad h c') k c = mm_cv X ad h k c := by
  have hlt : k < h.1.length := (List.getElem?_eq_some_iff.mp hk).1
  have hne : k ≠ h.1.length := Nat.ne_of_lt hlt
  obtain ⟨w1, w2⟩ := hw k c hk
  cases c with
  | inl a =>
    have e0 : (mm_ad h c').2.1 k = h.2.1 k := mm_zc_ne hne
    simp only [mm_cv, e0]
    by_cases ht : a.1 < 2
    · simp only [if_pos ht]
    · simp only [if_neg ht]
      congr 7
      funext i
      have h1 := (w1 a rfl).resolve_left ht i
      unfold mm_rd
      split
      · rfl
      · rename_i hx
        rw [mm_ext_lt]
        have : 0 < (h.2.1 k i).toNatClampNeg := by
          have h0 : (0 : Int32) < h.2.1 k i := by rw [← Int32.not_le]; exact hx
          have h2 : (0 : Int) < (h.2.1 k i).toInt := by simpa using Int32.lt_iff_toInt_lt.mp h0
          show 0 < (h.2.1 k i).toInt.toNat
          omega
        omega
  | inr o =>
    simp only [mm_cv]
    congr 2
    apply List.ext_getElem?
    intro j
    rw [List.getElem?_mapIdx, List.getElem?_mapIdx]
    have h1 := fun f hf => w2 o rfl f (List.mem_of_getElem? (i := j) hf)
    generalize o.2[j]? = z at h1
    cases z with
    | none => rw [Option.map_none, Option.map_none]
    | some f =>
      rw [Option.map_some, Option.map_some]
      have hf := h1 f rfl
      match f, hf with
      | 0, _ => exact congrArg (fun x => some (Value.int x)) (congrFun (mm_zc_ne hne) j)
      | 1, _ => exact congrArg (fun x => some (Value.long x)) (congrFun (mm_zl_ne hne) j)
      | 2, _ => rfl
      | f + 3, hf => exact congrArg (fun x => some (Value.ref x)) (mm_ext_lt (by omega))
theorem mm_lay_ad {X : mm_X} {ad : Nat → Nat} {h : mm_Hp} {c' : mm_Sh} {q : Nat} (hw : mm_wf h) : mm_lay X (mm_ext ad h.1.length q) (mm_ad h c') = mm_lay X ad h ++ [(q, mm_cv X (mm_ext ad h.1.length q) (mm_ad h c') h.1.length c')] := by
  refine List.ext_getElem? (fun j => ?_)
  rw [mm_lay_get]
  have e1 : (mm_ad h c').1 = h.1 ++ [c'] := rfl
  rw [e1]
  by_cases hj : j < h.1.length
  · rw [List.getElem?_append_left hj, List.getElem?_append_left (by rw [mm_lay_len]; exact hj), mm_lay_get]
    have h2 := fun c hc => mm_cv_ad (X := X) (ad := ad) (c' := c') (q := q) (k := j) (c := c) hw hc
    generalize h.1[j]? = z at h2
    cases z with
    | none => rw [Option.map_none, Option.map_none]
    | some c => rw [Option.map_some, Option.map_some, h2 c rfl, mm_ext_lt hj]
  · rw [List.getElem?_append_right (by omega), List.getElem?_append_right (by rw [mm_lay_len]; omega), mm_lay_len]
    by_cases e : j = h.1.length
    · subst e
      rw [Nat.sub_self]
      show some (mm_ext ad h.1.length q h.1.length, _) = some (q, _)
      rw [show mm_ext ad h.1.length q h.1.length = q from if_pos rfl]
    · obtain ⟨x, hx⟩ : ∃ x, j - h.1.length = x + 1 := ⟨j - h.1.length - 1, by omega⟩
      rw [hx]
      rfl
section
variable {d : Nat} {M : mm_M} {mc ms : Nat} {Q : Option Value → mm_Hp → Prop} {nc ns pc : Nat} {lv : mm_L} {st : List Value} {h : mm_Hp}
/-- returns -/
theorem mm_Qof {X : mm_X} {ad0 ad : Nat → Nat} {n0 : Nat} {v : Option Value} {args : Array Value} {s : State} {H : Heap} {locs : List Loc} (ha : ∀ k, k < n0 → ad k = ad0 k) (hn : n0 ≤ h.1.length) (hR : mm_Rel X ad h H) (hS : va_S (mm_A X) s.heap H locs) (hq : Q v h) : ∀ t : State, t.heap = H → s.WarmedH t.vm → mm_Q X ad0 n0 Q args s (.returned (v.map (mm_rv X ad))) t :=
  fun t ht _ => ⟨⟨v, h, ad, rfl, hq, by rw [ht]; exact hR, ha, hn⟩, hS.F ht⟩
theorem mm_ri {v : Int32} (hr : M.2.2.2 = some .int) (hd : decode M.2.1 pc = .ok (.ireturn, 1)) (hm : nc ≤ mc ∧ ns ≤ ms) (hq : Q (some (.int v)) h) : mm_W d M mc ms Q nc ns (pc, lv, [.int v], h) := by
  intro p l e s m args below meth c X ad0 n0 ad H locs ls C ha hn hR hS hl
  obtain ⟨hx, hb, hml, hr0, hlo, hown, hts, hnm, hT, hO⟩ := C
  exact W.widen hm.1 hm.2 (W.iret (v := v) hx hb (hr0.trans hr) (mm_Qof (v := some (.int v)) ha hn hR hS hq) hS.2.2 hd hlo)
theorem mm_rz {v : Int32} (hr : M.2.2.2 = some .boolean) (hd : decode M.2.1 pc = .ok (.ireturn, 1)) (hm : nc ≤ mc ∧ ns ≤ ms) (hz : v = 0 ∨ v = 1) (hq : Q (some (.int v)) h) : mm_W d M mc ms Q nc ns (pc, lv, [.int v], h) := by
  intro p l e s m args below meth c X ad0 n0 ad H locs ls C ha hn hR hS hl
  obtain ⟨hx, hb, hml, hr0, hlo, hown, hts, hnm, hT, hO⟩ := C
  exact W.widen hm.1 hm.2 (W.zret (v := v) hx hb (hr0.trans hr) (by rcases hz with rfl | rfl <;> decide +kernel) (mm_Qof (v := some (.int v)) ha hn hR hS hq) hS.2.2 hd hlo)
theorem mm_rc {v : Int32} {ty : FieldType} (hr : M.2.2.2 = some ty) (hz : narrow ty (.int v) = .int v) (hd : decode M.2.1 pc = .ok (.ireturn, 1)) (hm : nc ≤ mc ∧ ns ≤ ms) (hq : Q (some (.int v)) h) : mm_W d M mc ms Q nc ns (pc, lv, [.int v], h) := by
  intro p l e s m args below meth c X ad0 n0 ad H locs ls C ha hn hR hS hl
  obtain ⟨hx, hb, hml, hr0, hlo, hown, hts, hnm, hT, hO⟩ := C
  exact W.widen hm.1 hm.2 (W.zret (v := v) hx hb (hr0.trans hr) hz (mm_Qof (v := some (.int v)) ha hn hR hS hq) hS.2.2 hd hlo)
theorem mm_rl {v : Int64} (hr : M.2.2.2 = some .long) (hd : decode M.2.1 pc = .ok (.lreturn, 1)) (hm : nc ≤ mc ∧ ns ≤ ms) (hq : Q (some (.long v)) h) : mm_W d M mc ms Q nc ns (pc, lv, [.long v], h) := by
  intro p l e s m args below meth c X ad0 n0 ad H locs ls C ha hn hR hS hl
  obtain ⟨hx, hb, hml, hr0, hlo, hown, hts, hnm, hT, hO⟩ := C
  exact W.widen hm.1 hm.2 (W.lret (v := v) hx hb (hr0.trans hr) (mm_Qof (v := some (.long v)) ha hn hR hS hq) hS.2.2 hd hlo)
theorem mm_r0 (hr : M.2.2.2 = none) (hd : decode M.2.1 pc = .ok (.return_, 1)) (hm : nc ≤ mc ∧ ns ≤ ms) (hq : Q none h) : mm_W d M mc ms Q nc ns (pc, lv, [], h) := by
  intro p l e s m args below meth c X ad0 n0 ad H locs ls C ha hn hR hS hl
  obtain ⟨hx, hb, hml, hr0, hlo, hown, hts, hnm, hT, hO⟩ := C
  exact W.widen hm.1 hm.2 (W.vret hx hb (hr0.trans hr) (mm_Qof (v := none) ha hn hR hS hq) hS.2.2 hd hlo)
theorem mm_ra {v : Value} {rt : FieldType} (hr : M.2.2.2 = some rt) (hrt : (∃ n, rt = .object n) ∨ ∃ t, rt = .array t) (hv : mm_isr v = true) (hd : decode M.2.1 pc = .ok (.areturn, 1)) (hm : nc ≤ mc ∧ ns ≤ ms) (hq : Q (some v) h) : mm_W d M mc ms Q nc ns (pc, lv, [v], h) := by
  intro p l e s m args below meth c X ad0 n0 ad H locs ls C ha hn hR hS hl
  obtain ⟨hx, hb, hml, hr0, hlo, hown, hts, hnm, hT, hO⟩ := C
  exact W.widen hm.1 hm.2 (W.aret (v := mm_rv X ad v) hx hb (hr0.trans hr) hrt (by rcases mm_isr_rv (X := X) (ad := ad) hv with ⟨a, e⟩ | e; exact Or.inr ⟨a, e⟩; exact Or.inl e) (mm_Qof (v := some v) ha hn hR hS hq) hS.2.2 hd hlo)
/-- branches: the condition, and the stack behind it -/
def mm_br (i : Instr) (st : List Value) : Option (Prop × Prop × List Value) :=
  match i, st with
  | .ifCond .eq _, .int x :: r => some (x = 0, ¬ x = 0, r)
  | .ifCond .ne _, .int x :: r => some (¬ x = 0, x = 0, r)
  | .ifCond .lt _, .int x :: r => some (x < 0, ¬ x < 0, r)
  | .ifCond .ge _, .int x :: r => some (0 ≤ x, ¬ 0 ≤ x, r)
  | .ifCond .gt _, .int x :: r => some (0 < x, ¬ 0 < x, r)
  | .ifCond .le _, .int x :: r => some (x ≤ 0, ¬ x ≤ 0, r)
  | .if_icmp .eq _, .int y :: .int x :: r => some (x = y, ¬ x = y, r)
  | .if_icmp .ne _, .int y :: .int x :: r => some (¬ x = y, x = y, r)
  | .if_icmp .lt _, .int y :: .int x :: r => some (x < y, ¬ x < y, r)
  | .if_icmp .ge _, .int y :: .int x :: r => some (y ≤ x, ¬ y ≤ x, r)
  | .if_icmp .gt _, .int y :: .int x :: r => some (y < x, ¬ y < x, r)
  | .if_icmp .le _, .int y :: .int x :: r => some (x ≤ y, ¬ x ≤ y, r)
  | .ifnull _, .ref _ :: r => some (False, True, r)
  | .ifnull _, .null :: r => some (True, False, r)
  | .ifnonnull _, .ref _ :: r => some (True, False, r)
  | .ifnonnull _, .null :: r => some (False, True, r)
  | _, _ => none
def mm_off : Instr → Int
  | .ifCond _ o => o
  | .if_icmp _ o => o
  | .ifnull o => o
  | .ifnonnull o => o
  | _ => 0
theorem mm_br_ok {i : Instr} {P P' : Prop} {r : List Value} {tgt : Nat} (hx : mm_br i st = some (P, P', r)) (hd : decode M.2.1 pc = .ok (i, 3)) (ht : (pc : Int) + mm_off i = (tgt : Int)) (kt : P → mm_W d M mc ms Q nc ns (tgt, lv, r, h)) (kf : P' → mm_W d M mc ms Q nc ns (pc + 3, lv, r, h)) : mm_W d M mc ms Q nc ns (pc, lv, st, h) := by
  intro p l e s m args below meth c X ad0 n0 ad H locs ls C ha hn hR hS hl
  have kt' := fun hP => kt hP p l e s m args below meth c X ad0 n0 ad H locs ls C ha hn hR hS hl
  have kf' := fun hP => kf hP p l e s m args below meth c X ad0 n0 ad H locs ls C ha hn hR hS hl
  unfold mm_br at hx
  split at hx
  · cases hx; exact lv_if_eq C.1 C.2.1 hd ht kt' kf'
  · cases hx; exact lv_if_ne C.1 C.2.1 hd ht kt' kf'
  · cases hx; exact lv_if_lt C.1 C.2.1 hd ht kt' kf'
  · cases hx; exact lv_if_ge C.1 C.2.1 hd ht kt' kf'
  · cases hx; exact lv_if_gt C.1 C.2.1 hd ht kt' kf'
  · cases hx; exact lv_if_le C.1 C.2.1 hd ht kt' kf'
  · cases hx; exact lv_icmp_eq C.1 C.2.1 hd ht kt' kf'
  · cases hx; exact lv_icmp_ne C.1 C.2.1 hd ht kt' kf'
  · cases hx; exact lv_icmp_lt C.1 C.2.1 hd ht kt' kf'
  · cases hx; exact lv_icmp_ge C.1 C.2.1 hd ht kt' kf'
  · cases hx; exact lv_icmp_gt C.1 C.2.1 hd ht kt' kf'
  · cases hx; exact lv_icmp_le C.1 C.2.1 hd ht kt' kf'
  · cases hx; exact lv_ifnull C.1 C.2.1 hd (kf' trivial)
  · cases hx; exact lv_ifnullN C.1 C.2.1 hd ht (kt' trivial)
  · cases hx; exact lv_ifnonnull C.1 C.2.1 hd ht (kt' trivial)
  · cases hx; exact lv_ifnonnullN C.1 C.2.1 hd (kf' trivial)
  · cases hx
theorem mm_tsw {x : Int32} {dflt lo hi : Int} {offs : Array Int} {len : Nat} (hd : decode M.2.1 pc = .ok (.tableswitch dflt lo hi offs, len)) (hin : ∀ (off : Int) (tgt : Nat), ¬ x.toInt < lo → ¬ hi < x.toInt → offs[(x.toInt - lo).toNat]? = some off → (pc : Int) + off = (tgt : Int) → mm_W d M mc ms Q nc ns (tgt, lv, st, h)) (hof : ∀ i : Nat, (i : Int) ≤ hi - lo → ∃ (off : Int) (tgt : Nat), offs[i]? = some off ∧ (pc : Int) + off = (tgt : Int)) (hout : ∀ tgt : Nat, x.toInt < lo ∨ hi < x.toInt → (pc : Int) + dflt = (tgt : Int) → mm_W d M mc ms Q nc ns (tgt, lv, st, h)) (hdf : ∃ tgt : Nat, (pc : Int) + dflt = (tgt : Int)) : mm_W d M mc ms Q nc ns (pc, lv, .int x :: st, h) := by
  by_cases hx : x.toInt < lo ∨ hi < x.toInt
  · obtain ⟨tgt, ht⟩ := hdf
    intro p l e s m args below meth c X ad0 n0 ad H locs ls C ha hn hR hS hl
    exact lv_tableOut C.1 C.2.1 hd hx ht (hout tgt hx ht p l e s m args below meth c X ad0 n0 ad H locs ls C ha hn hR hS hl)
  · have h1 : ¬ x.toInt < lo := fun q => hx (Or.inl q)
    have h2 : ¬ hi < x.toInt := fun q => hx (Or.inr q)
    obtain ⟨off, tgt, ho, ht⟩ := hof (x.toInt - lo).toNat (by omega)
    intro p l e s m args below meth c X ad0 n0 ad H locs ls C ha hn hR hS hl
    exact lv_tableIn C.1 C.2.1 hd h1 h2 ho ht (hin off tgt h1 h2 ho ht p l e s m args below meth c X ad0 n0 ad H locs ls C ha hn hR hS hl)
end
