/-! ===== the evaluation is sound ===== -/
section
variable {d : Nat} {M : mm_M} {mc ms : Nat} {Q : Option Value → mm_Hp → Prop} {nc ns pc : Nat} {lv : mm_L} {st : List Value} {h : mm_Hp}
theorem mm_ldc_s {n j : Nat} (ho : M.1.cls = "SchoolOnRaft$Reader") (hj : (mm_str[j]?).map Prod.fst = some n) (hd : decode M.2.1 pc = .ok (.ldc n, 2)) (k : mm_W d M mc ms Q nc ns (pc + 2, lv, .retAddr j :: st, h)) : mm_W d M mc ms Q nc ns (pc, lv, st, h) := by
  intro p l e s m args below meth c X ad0 n0 ad H locs ls C ha hn hR hS hl
  have k' := k p l e s m args below meth c X ad0 n0 ad H locs ls C ha hn hR hS hl
  obtain ⟨hx, hb, hml, hr, hlo, hown, hts, hnm, hT, hO⟩ := C
  cases hq : mm_str[j]? with
  | none => rw [hq] at hj; cases hj
  | some q =>
    rw [hq] at hj
    cases hj
    rw [ho] at hown
    have hj12 : j < 12 := (List.getElem?_eq_some_iff.mp hq).1
    have e0 : mm_rv X ad (.retAddr j) = .ref (X.2.2.2.1.1 j) := by
      have : Nat.ble 100 j = false := by
        cases h9 : Nat.ble 100 j with
        | false => rfl
        | true => have := Nat.le_of_ble_eq_true h9; omega
      simp [mm_rv, this]
    simp only [List.map_cons, e0] at k'
    exact va_ldcS hx hb hown (hT.2.2.2.2.2.2 j q hq) hd k'
theorem mm_cst {i : Instr} {len x y : Nat} {v : Value} (hi : i = .aconst_null ∨ (∃ n, i = .iconst n) ∨ (∃ n, i = .bipush n) ∨ (∃ n, i = .sipush n) ∨ (∃ n, i = .lconst n) ∨ (∃ n, i = .ldc n) ∨ (∃ n, i = .ldc_w n) ∨ ∃ n, i = .ldc2_w n) (hd : decode M.2.1 pc = .ok (i, len)) (hk : mm_k2 M pc i len x y v = true) (k : mm_W d M mc ms Q nc ns (pc + len, lv, v :: st, h)) : mm_W d M mc ms Q nc ns (pc, lv, st, h) := by
  rcases hi with rfl | ⟨n, rfl⟩ | ⟨n, rfl⟩ | ⟨n, rfl⟩ | ⟨n, rfl⟩ | ⟨n, rfl⟩ | ⟨n, rfl⟩ | ⟨n, rfl⟩
  · simp only [mm_k2, Bool.and_eq_true, beq_iff_eq, decide_eq_true_eq] at hk
    obtain ⟨rfl, rfl⟩ := hk
    intro p l e s m args below meth c X ad0 n0 ad H locs ls C ha hn hR hS hl
    exact lv_null C.1 C.2.1 hd (k p l e s m args below meth c X ad0 n0 ad H locs ls C ha hn hR hS hl)
  · simp only [mm_k2, Bool.and_eq_true, beq_iff_eq, decide_eq_true_eq] at hk
    obtain ⟨rfl, rfl⟩ := hk
    intro p l e s m args below meth c X ad0 n0 ad H locs ls C ha hn hR hS hl
    exact lv_iconst C.1 C.2.1 hd rfl (k p l e s m args below meth c X ad0 n0 ad H locs ls C ha hn hR hS hl)
  · simp only [mm_k2, Bool.and_eq_true, beq_iff_eq, decide_eq_true_eq] at hk
    obtain ⟨rfl, rfl⟩ := hk
    intro p l e s m args below meth c X ad0 n0 ad H locs ls C ha hn hR hS hl
    exact lv_bipush C.1 C.2.1 hd rfl (k p l e s m args below meth c X ad0 n0 ad H locs ls C ha hn hR hS hl)
  · simp only [mm_k2, Bool.and_eq_true, beq_iff_eq, decide_eq_true_eq] at hk
    obtain ⟨rfl, rfl⟩ := hk
    intro p l e s m args below meth c X ad0 n0 ad H locs ls C ha hn hR hS hl
    exact lv_sipush C.1 C.2.1 hd rfl (k p l e s m args below meth c X ad0 n0 ad H locs ls C ha hn hR hS hl)
  · simp only [mm_k2, Bool.and_eq_true, beq_iff_eq, decide_eq_true_eq] at hk
    obtain ⟨rfl, rfl⟩ := hk
    intro p l e s m args below meth c X ad0 n0 ad H locs ls C ha hn hR hS hl
    exact lv_lconst C.1 C.2.1 hd rfl (k p l e s m args below meth c X ad0 n0 ad H locs ls C ha hn hR hS hl)
  · simp only [mm_k2, Bool.and_eq_true, beq_iff_eq] at hk
    obtain ⟨rfl, h1⟩ := hk
    cases v with
    | int a =>
      intro p l e s m args below meth c X ad0 n0 ad H locs ls C ha hn hR hS hl
      exact lv_ldc C.1 C.2.1 C.2.2.2.2.2.1 (C.2.2.2.2.2.2.1 _ (mm_cm_i h1)) hd (k p l e s m args below meth c X ad0 n0 ad H locs ls C ha hn hR hS hl)
    | retAddr j =>
      simp only [Bool.and_eq_true, decide_eq_true_eq] at h1
      exact mm_ldc_s h1.1 h1.2 hd k
    | _ => cases h1
  · simp only [mm_k2, Bool.and_eq_true, beq_iff_eq] at hk
    obtain ⟨rfl, h1⟩ := hk
    cases v with
    | int a =>
      intro p l e s m args below meth c X ad0 n0 ad H locs ls C ha hn hR hS hl
      exact lv_ldcw C.1 C.2.1 C.2.2.2.2.2.1 (C.2.2.2.2.2.2.1 _ (mm_cm_i h1)) hd (k p l e s m args below meth c X ad0 n0 ad H locs ls C ha hn hR hS hl)
    | _ => cases h1
  · simp only [mm_k2, Bool.and_eq_true, beq_iff_eq] at hk
    obtain ⟨rfl, h1⟩ := hk
    cases v with
    | long a =>
      intro p l e s m args below meth c X ad0 n0 ad H locs ls C ha hn hR hS hl
      exact lv_ldc2 C.1 C.2.1 C.2.2.2.2.2.1 (C.2.2.2.2.2.2.1 _ (mm_cm_l h1)) hd (k p l e s m args below meth c X ad0 n0 ad H locs ls C ha hn hR hS hl)
    | _ => cases h1
theorem mm_x1_ok {i : Instr} {len x y : Nat} {v : Value} {cs : List Prop} {s' : mm_S} (hd : decode M.2.1 pc = .ok (i, len)) (hk : mm_k2 M pc i len x y v = true) (hx : mm_x1 i pc len x y v lv st h = some (cs, s')) (hc : mm_all cs) (k : mm_W d M mc ms Q nc ns s') : mm_W d M mc ms Q nc ns (pc, lv, st, h) := by
  unfold mm_x1 at hx
  split at hx
  · cases hx; exact mm_cst (Or.inr (Or.inl ⟨_, rfl⟩)) hd hk k
  · cases hx; exact mm_cst (Or.inr (Or.inr (Or.inl ⟨_, rfl⟩))) hd hk k
  · cases hx; exact mm_cst (Or.inr (Or.inr (Or.inr (Or.inl ⟨_, rfl⟩)))) hd hk k
  · cases hx; exact mm_cst (Or.inr (Or.inr (Or.inr (Or.inr (Or.inl ⟨_, rfl⟩))))) hd hk k
  · cases hx; exact mm_cst (Or.inl rfl) hd hk k
  · cases hx; exact mm_cst (Or.inr (Or.inr (Or.inr (Or.inr (Or.inr (Or.inl ⟨_, rfl⟩)))))) hd hk k
  · cases hx; exact mm_cst (Or.inr (Or.inr (Or.inr (Or.inr (Or.inr (Or.inr (Or.inl ⟨_, rfl⟩))))))) hd hk k
  · cases hx; exact mm_cst (Or.inr (Or.inr (Or.inr (Or.inr (Or.inr (Or.inr (Or.inr ⟨_, rfl⟩))))))) hd hk k
  · simp only [mm_k2, Bool.and_eq_true, beq_iff_eq] at hk
    obtain ⟨rfl, rfl⟩ := hk
    split at hx
    · rename_i ha; cases hx; exact mm_ldi ha (Or.inl ⟨hd, rfl⟩) k
    · cases hx
  · simp only [mm_k2, Bool.and_eq_true, beq_iff_eq] at hk
    obtain ⟨rfl, rfl⟩ := hk
    split at hx
    · rename_i ha; cases hx; exact mm_ldi ha (Or.inr ⟨_, rfl, hd, rfl⟩) k
    · cases hx
  · simp only [mm_k2, Bool.and_eq_true, beq_iff_eq] at hk
    obtain ⟨rfl, rfl⟩ := hk
    split at hx
    · rename_i ha; cases hx; exact mm_ldl ha (Or.inl ⟨hd, rfl⟩) k
    · cases hx
  · simp only [mm_k2, Bool.and_eq_true, beq_iff_eq] at hk
    obtain ⟨rfl, rfl⟩ := hk
    split at hx
    · rename_i ha; cases hx; exact mm_ldl ha (Or.inr ⟨_, rfl, hd, rfl⟩) k
    · cases hx
  · simp only [mm_k2, Bool.and_eq_true, beq_iff_eq] at hk
    obtain ⟨rfl, rfl⟩ := hk
    split at hx
    · rename_i w ha
      cases hr : mm_isr w with
      | false => rw [hr] at hx; cases hx
      | true => rw [hr] at hx; cases hx; exact mm_lda ha hr (Or.inl ⟨hd, rfl⟩) k
    · cases hx
  · simp only [mm_k2, Bool.and_eq_true, beq_iff_eq] at hk
    obtain ⟨rfl, rfl⟩ := hk
    split at hx
    · rename_i w ha
      cases hr : mm_isr w with
      | false => rw [hr] at hx; cases hx
      | true => rw [hr] at hx; cases hx; exact mm_lda ha hr (Or.inr ⟨_, rfl, hd, rfl⟩) k
    · cases hx
  · simp only [mm_k2, Bool.and_eq_true, beq_iff_eq] at hk
    obtain ⟨rfl, rfl⟩ := hk
    split at hx
    · simp only [Bool.cond_eq_ite] at hx
      split at hx
      · rename_i hr
        cases hx
        rw [Bool.and_eq_true] at hr
        exact mm_sti hr.1 (Nat.blt_eq.mp hr.2) (Or.inl ⟨hd, rfl⟩) k
      · cases hx
    · cases hx
  · simp only [mm_k2, Bool.and_eq_true, beq_iff_eq] at hk
    obtain ⟨rfl, rfl⟩ := hk
    split at hx
    · simp only [Bool.cond_eq_ite] at hx
      split at hx
      · rename_i hr
        cases hx
        rw [Bool.and_eq_true] at hr
        exact mm_sti hr.1 (Nat.blt_eq.mp hr.2) (Or.inr ⟨_, rfl, hd, rfl⟩) k
      · cases hx
    · cases hx
  · simp only [mm_k2, Bool.and_eq_true, beq_iff_eq] at hk
    obtain ⟨rfl, rfl⟩ := hk
    split at hx
    · simp only [Bool.cond_eq_ite] at hx
      split at hx
      · rename_i hr
        cases hx
        rw [Bool.and_eq_true] at hr
        exact mm_stl hr.1 (Nat.blt_eq.mp hr.2) (Or.inl ⟨hd, rfl⟩) k
      · cases hx
    · cases hx
  · simp only [mm_k2, Bool.and_eq_true, beq_iff_eq] at hk
    obtain ⟨rfl, rfl⟩ := hk
    split at hx
    · simp only [Bool.cond_eq_ite] at hx
      split at hx
      · rename_i hr
        cases hx
        rw [Bool.and_eq_true] at hr
        exact mm_stl hr.1 (Nat.blt_eq.mp hr.2) (Or.inr ⟨_, rfl, hd, rfl⟩) k
      · cases hx
    · cases hx
  · simp only [mm_k2, Bool.and_eq_true, beq_iff_eq] at hk
    obtain ⟨rfl, rfl⟩ := hk
    split at hx
    · simp only [Bool.cond_eq_ite] at hx
      split at hx
      · rename_i hr
        cases hx
        rw [Bool.and_eq_true, Bool.and_eq_true] at hr
        exact mm_sta hr.1 hr.2.1 (Nat.blt_eq.mp hr.2.2) (Or.inl ⟨hd, rfl⟩) k
      · cases hx
    · cases hx
  · simp only [mm_k2, Bool.and_eq_true, beq_iff_eq] at hk
    obtain ⟨rfl, rfl⟩ := hk
    split at hx
    · simp only [Bool.cond_eq_ite] at hx
      split at hx
      · rename_i hr
        cases hx
        rw [Bool.and_eq_true, Bool.and_eq_true] at hr
        exact mm_sta hr.1 hr.2.1 (Nat.blt_eq.mp hr.2.2) (Or.inr ⟨_, rfl, hd, rfl⟩) k
      · cases hx
    · cases hx
  · simp only [mm_k2, Bool.and_eq_true, beq_iff_eq, decide_eq_true_eq] at hk
    obtain ⟨rfl, rfl, rfl⟩ := hk
    split at hx
    · rename_i ha hb
      cases hb
      simp only [Bool.cond_eq_ite] at hx
      split at hx
      · rename_i hr
        cases hx
        exact mm_inc ha rfl hr hd k
      · cases hx
    · cases hx
  · simp only [mm_k2, Bool.and_eq_true, beq_iff_eq, decide_eq_true_eq] at hk
    obtain ⟨rfl, ht⟩ := hk
    cases hx
    exact mm_goto hd ht k
  · simp only [mm_k2, Bool.and_eq_true, beq_iff_eq] at hk
    obtain ⟨rfl, h1⟩ := hk
    split at hx
    · rename_i n q r
      split at hx
      · rename_i w hw
        cases h9 : x == 99 with
        | true => rw [h9] at hx; cases hx
        | false =>
          rw [h9] at hx; cases hx
          rw [h9, Bool.false_or] at h1
          unfold mm_gf at hw
          split at hw
          · rename_i ci fs hs
            cases hci : ci == x with
            | false => rw [hci] at hw; cases hw
            | true =>
              rw [hci] at hw
              have e : ci = x := by simpa using hci
              subst e
              simp only [cond_true] at hw
              split at hw
              · rename_i cd hf
                cases hw
                exact mm_get (mm_fm_lk h1) hs hf hd k
              · cases hw
          · cases hw
      · cases hx
    · cases hx
  · simp only [mm_k2, Bool.and_eq_true, beq_iff_eq] at hk
    obtain ⟨rfl, h1, h2⟩ := hk
    split at hx
    · rename_i n w q r
      split at hx
      · rename_i cs1 h' hw
        cases hx
        unfold mm_wr at hw
        split at hw
        · rename_i ci fs hs
          cases hci : ci == x with
          | false => rw [hci] at hw; cases hw
          | true =>
            rw [hci] at hw
            have e : ci = x := by simpa using hci
            subst e
            simp only [cond_true] at hw
            split at hw
            · rename_i cd hf
              refine mm_put (mm_fm_lk h1) ?_ hs hf hw hc hd k
              intro q hq hfin
              unfold mm_ff at h2
              rw [hq] at h2
              simp only [hfin, Bool.not_true, Bool.false_or, Bool.and_eq_true, decide_eq_true_eq] at h2
              exact h2
            · cases hw
        · cases hw
      · cases hx
    · cases hx
  · split at hx
    · rename_i a q r
      split at hx
      · rename_i n hs
        cases hl : len == 1 with
        | false => rw [hl] at hx; cases hx
        | true =>
          rw [hl] at hx; cases hx
          have e : len = 1 := by simpa using hl
          subst e
          exact mm_iald hs hc hd k
      · cases hx
    · rename_i a u r
      cases hl : len == 1 with
      | false => rw [hl] at hx; cases hx
      | true =>
        rw [hl] at hx; cases hx
        have e : len = 1 := by simpa using hl
        subst e
        exact mm_sald hc hd k
    · cases hx
  · split at hx
    · rename_i a q r
      split at hx
      · rename_i n hs
        cases hl : len == 1 with
        | false => rw [hl] at hx; cases hx
        | true =>
          rw [hl] at hx; cases hx
          have e : len = 1 := by simpa using hl
          subst e
          exact mm_zald hs hc hd k
      · cases hx
    · cases hx
  · split at hx
    · rename_i b a q r
      split at hx
      · rename_i n hs
        cases hl : len == 1 with
        | false => rw [hl] at hx; cases hx
        | true =>
          rw [hl] at hx; cases hx
          have e : len = 1 := by simpa using hl
          subst e
          exact mm_iast hs hc hd k
      · cases hx
    · cases hx
  · split at hx
    · rename_i b a q r
      split at hx
      · rename_i n hs
        cases hl : len == 1 with
        | false => rw [hl] at hx; cases hx
        | true =>
          rw [hl] at hx; cases hx
          have e : len = 1 := by simpa using hl
          subst e
          exact mm_zast hs hc.1 hc.2 hd k
      · cases hx
    · cases hx
  · split at hx
    · rename_i q r
      split at hx
      · rename_i t n hs
        cases hl : len == 1 && Nat.blt t 5 with
        | false => rw [hl] at hx; cases hx
        | true =>
          rw [hl] at hx; cases hx
          rw [Bool.and_eq_true] at hl
          have e : len = 1 := by simpa using hl.1
          subst e
          exact mm_ialn (Nat.blt_eq.mp hl.2) hs hd k
      · cases hx
    · rename_i u r
      cases hl : len == 1 with
      | false => rw [hl] at hx; cases hx
      | true =>
        rw [hl] at hx; cases hx
        have e : len = 1 := by simpa using hl
        subst e
        exact mm_slen hd k
    · cases hx
  · split at hx
    · rename_i cs1 st' ho
      cases hl : len == 1 with
      | false => rw [hl] at hx; cases hx
      | true =>
        rw [hl] at hx; cases hx
        have e : len = 1 := by simpa using hl
        subst e
        exact mm_op_ok ho hc hd k
    · cases hx
theorem mm_xs_ok : ∀ {es : List mm_E} {s s' : mm_S} {cs : List Prop}, es.all (mm_k M) = true → mm_xs es s = some (cs, s') → mm_all cs → mm_W d M mc ms Q nc ns s' → mm_W d M mc ms Q nc ns s := by
  intro es
  induction es with
  | nil => intro s s' cs _ hx _ k; cases hx; exact k
  | cons e es ih =>
    intro s s' cs hok hx hc k
    rw [List.all_cons, Bool.and_eq_true] at hok
    obtain ⟨pc', lv', st', h'⟩ := s
    obtain ⟨hk1, hk2⟩ := hok
    unfold mm_k at hk1
    rw [Bool.and_eq_true, decide_eq_true_eq] at hk1
    simp only [mm_xs] at hx
    cases hp : pc' == e.1 with
    | false => rw [hp] at hx; cases hx
    | true =>
      rw [hp] at hx
      have ep : pc' = e.1 := by simpa using hp
      subst ep
      simp only [cond_true] at hx
      split at hx
      · rename_i cs1 s1 h1
        split at hx
        · rename_i cs2 s2 h2
          cases hx
          obtain ⟨c1, c2⟩ := mm_all_app hc
          exact mm_x1_ok hk1.1 hk1.2 h1 c1 (ih hk2 h2 c2 k)
        · cases hx
      · cases hx
theorem mm_all_slice {cd : List mm_E} (hok : cd.all (mm_k M) = true) (i n : Nat) : ((cd.drop i).take n).all (mm_k M) = true := by
  rw [List.all_eq_true] at hok ⊢
  exact fun e he => hok e (List.mem_of_mem_drop (List.mem_of_mem_take he))
/-- rows i .. i + n - 1 of the code -/
theorem mm_B {cd : List mm_E} (hok : cd.all (mm_k M) = true) (i n : Nat) {s : mm_S} (s' : mm_S) (cs : List Prop) (hx : mm_xs ((cd.drop i).take n) s = some (cs, s')) (hc : mm_all cs) (k : mm_W d M mc ms Q nc ns s') : mm_W d M mc ms Q nc ns s :=
  mm_xs_ok (mm_all_slice hok i n) hx hc k
theorem mm_at {cd : List mm_E} (hok : cd.all (mm_k M) = true) {i : Nat} {e : mm_E} (he : cd[i]? = some e) : decode M.2.1 e.1 = .ok (e.2.1, e.2.2.1) ∧ mm_k2 M e.1 e.2.1 e.2.2.1 e.2.2.2.1 e.2.2.2.2.1 e.2.2.2.2.2 = true := by
  have h1 := List.all_eq_true.mp hok e (List.mem_of_getElem? he)
  unfold mm_k at h1
  rw [Bool.and_eq_true, decide_eq_true_eq] at h1
  exact h1
theorem mm_k2_off {i : Instr} {len x y : Nat} {v : Value} {st : List Value} {R : Prop × Prop × List Value} (hk : mm_k2 M pc i len x y v = true) (hb : mm_br i st = some R) : len = 3 ∧ (pc : Int) + mm_off i = (y : Int) := by
  unfold mm_br at hb
  split at hb <;> first | (cases hb; done) | (simp only [mm_k2, Bool.and_eq_true, beq_iff_eq, decide_eq_true_eq] at hk; exact hk)
/-- rows i .. i + n - 1, then a branch -/
theorem mm_I {cd : List mm_E} (hok : cd.all (mm_k M) = true) (i n : Nat) {s : mm_S} (pc' : Nat) (lv' : mm_L) (st' : List Value) (h' : mm_Hp) (cs : List Prop) {P P' : Prop} {r : List Value} {ins : Instr} {len x tgt : Nat} {v : Value} (hx : mm_xs ((cd.drop i).take n) s = some (cs, (pc', lv', st', h'))) (hc : mm_all cs) (he : cd[i + n]? = some (pc', ins, len, x, tgt, v)) (hb : mm_br ins st' = some (P, P', r)) (kt : P → mm_W d M mc ms Q nc ns (tgt, lv', r, h')) (kf : P' → mm_W d M mc ms Q nc ns (pc' + 3, lv', r, h')) : mm_W d M mc ms Q nc ns s := by
  refine mm_xs_ok (mm_all_slice hok i n) hx hc ?_
  obtain ⟨h1, h2⟩ := mm_at hok he
  obtain ⟨e3, e4⟩ := mm_k2_off h2 hb
  have e3 : len = 3 := e3
  subst e3
  exact mm_br_ok hb h1 e4 kt kf
end
