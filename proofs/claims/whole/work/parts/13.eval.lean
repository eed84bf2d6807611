/-! ===== an instruction by evaluation; a stretch of them ===== -/
def mm_flk (q : Nat × Nat × Nat × Nat × String) : Bool := match vwCl[q.2.1]? with
  | some c => decide (q.2.2.1 < c.2.2) && decide (lw_tbl[q.2.2.2.1]? = some (.fieldLink q.2.2.2.2 q.1 c.1 (c.2.1 q.2.2.1).2.1 (c.2.1 q.2.2.1).2.2.1)) && decide ((c.2.1 q.2.2.1).1 = c.1)
  | none => false
theorem mm_fl_ok : mm_fl.all mm_flk = true := by decide +kernel
def mm_fm (own : String) (idx ci y : Nat) : Bool := mm_fl.any (fun q => q.1 == idx && (q.2.1 == ci && (q.2.2.1 == y && decide (q.2.2.2.2 = own))))
theorem mm_fm_lk {own : String} {idx ci y : Nat} (h : mm_fm own idx ci y = true) : mm_lk own idx ci y := by
  obtain ⟨q, hq, h1⟩ := List.any_eq_true.mp h
  simp only [Bool.and_eq_true, beq_iff_eq, decide_eq_true_eq] at h1
  obtain ⟨e1, e2, e3, e4⟩ := h1
  have h2 := List.all_eq_true.mp mm_fl_ok q hq
  unfold mm_flk at h2
  rw [e1, e2, e3, e4] at h2
  split at h2
  · rename_i c hc
    simp only [Bool.and_eq_true, decide_eq_true_eq] at h2
    exact ⟨c, hc, h2.1.1, mm_wat _ h2.1.2 rfl, h2.2⟩
  · cases h2
def mm_clk (q : Nat × Value × Nat × String) : Bool := match q.2.1 with
  | .int a => decide (lw_tbl[q.2.2.1]? = some (.constant q.2.2.2 q.1 a))
  | .long a => decide (lw_tbl[q.2.2.1]? = some (.constantLong q.2.2.2 q.1 a))
  | _ => false
theorem mm_cl_ok : mm_cl.all mm_clk = true := by decide +kernel
def mm_cm (own : String) (idx : Nat) (v : Value) : Bool := mm_cl.any (fun q => q.1 == idx && (decide (q.2.1 = v) && decide (q.2.2.2 = own)))
theorem mm_cm_i {own : String} {idx : Nat} {a : Int32} (h : mm_cm own idx (.int a) = true) : Cond.constant own idx a ∈ mm_G := by
  obtain ⟨q, hq, h1⟩ := List.any_eq_true.mp h
  simp only [Bool.and_eq_true, beq_iff_eq, decide_eq_true_eq] at h1
  obtain ⟨e1, e2, e3⟩ := h1
  have h2 := List.all_eq_true.mp mm_cl_ok q hq
  unfold mm_clk at h2
  rw [e1, e2, e3] at h2
  exact mm_wat _ (of_decide_eq_true h2) rfl
theorem mm_cm_l {own : String} {idx : Nat} {a : Int64} (h : mm_cm own idx (.long a) = true) : Cond.constantLong own idx a ∈ mm_G := by
  obtain ⟨q, hq, h1⟩ := List.any_eq_true.mp h
  simp only [Bool.and_eq_true, beq_iff_eq, decide_eq_true_eq] at h1
  obtain ⟨e1, e2, e3⟩ := h1
  have h2 := List.all_eq_true.mp mm_cl_ok q hq
  unfold mm_clk at h2
  rw [e1, e2, e3] at h2
  exact mm_wat _ (of_decide_eq_true h2) rfl
def mm_ff (M : mm_M) (ci y : Nat) : Bool := match vwCl[ci]? with
  | some c => !(c.2.1 y).2.2.2 || (decide (M.1.name = "<init>") && decide (c.1 = M.1.cls))
  | none => false
/-- a row of a method's code is as the bytes say -/
def mm_k2 (M : mm_M) (pc : Nat) (i : Instr) (len x y : Nat) (v : Value) : Bool := match i with
  | .iconst n => len == 1 && decide (v = .int (Int32.ofInt n))
  | .bipush n => len == 2 && decide (v = .int (Int8.ofInt n).toInt32)
  | .sipush n => len == 3 && decide (v = .int (Int16.ofInt n).toInt32)
  | .lconst n => len == 1 && decide (v = .long (Int64.ofNat (n : Nat)))
  | .aconst_null => len == 1 && decide (v = .null)
  | .ldc n => len == 2 && (match v with
    | .int a => mm_cm M.1.cls n (.int a)
    | .retAddr j => decide (M.1.cls = "SchoolOnRaft$Reader") && decide ((mm_str[j]?).map Prod.fst = some n)
    | _ => false)
  | .ldc_w n => len == 3 && (match v with
    | .int a => mm_cm M.1.cls n (.int a)
    | _ => false)
  | .ldc2_w n => len == 3 && (match v with
    | .long a => mm_cm M.1.cls n (.long a)
    | _ => false)
  | .iload n => len == 2 && n == x
  | .lload n => len == 2 && n == x
  | .aload n => len == 2 && n == x
  | .istore n => len == 2 && n == x
  | .lstore n => len == 2 && n == x
  | .astore n => len == 2 && n == x
  | .iload_n n => len == 1 && (n : Nat) == x
  | .lload_n n => len == 1 && (n : Nat) == x
  | .aload_n n => len == 1 && (n : Nat) == x
  | .istore_n n => len == 1 && (n : Nat) == x
  | .lstore_n n => len == 1 && (n : Nat) == x
  | .astore_n n => len == 1 && (n : Nat) == x
  | .iinc n c => len == 3 && (n == x && decide (v = .int (Int32.ofInt c)))
  | .goto o => len == 3 && decide ((pc : Int) + o = (y : Int))
  | .ifCond _ o => len == 3 && decide ((pc : Int) + o = (y : Int))
  | .if_icmp _ o => len == 3 && decide ((pc : Int) + o = (y : Int))
  | .ifnull o => len == 3 && decide ((pc : Int) + o = (y : Int))
  | .ifnonnull o => len == 3 && decide ((pc : Int) + o = (y : Int))
  | .getfield n => len == 3 && (x == 99 || mm_fm M.1.cls n x y)
  | .putfield n => len == 3 && (mm_fm M.1.cls n x y && mm_ff M x y)
  | _ => true
def mm_k (M : mm_M) (e : mm_E) : Bool := decide (decode M.2.1 e.1 = .ok (e.2.1, e.2.2.1)) && mm_k2 M e.1 e.2.1 e.2.2.1 e.2.2.2.1 e.2.2.2.2.1 e.2.2.2.2.2
/-- the value of an array's place, of a field: what the picture says -/
def mm_gf (h : mm_Hp) (k x y : Nat) : Option Value := match h.1[k]? with
  | some (.inr (ci, fs)) => bif ci == x then (match fs[y]? with
    | some c => some (mm_vF h k y c)
    | none => none) else none
  | _ => none
def mm_wr (h : mm_Hp) (k x y : Nat) (v : Value) : Option (List Prop × mm_Hp) := match h.1[k]? with
  | some (.inr (ci, fs)) => bif ci == x then (match fs[y]? with
    | some c => mm_pf h k y x fs (mm_ty x y) v c
    | none => none) else none
  | _ => none
def mm_x1 (i : Instr) (pc len x y : Nat) (v : Value) (lv : mm_L) (st : List Value) (h : mm_Hp) : Option (List Prop × mm_S) :=
  match i with
  | .iconst _ => some ([], pc + len, lv, v :: st, h)
  | .bipush _ => some ([], pc + len, lv, v :: st, h)
  | .sipush _ => some ([], pc + len, lv, v :: st, h)
  | .lconst _ => some ([], pc + len, lv, v :: st, h)
  | .aconst_null => some ([], pc + len, lv, v :: st, h)
  | .ldc _ => some ([], pc + len, lv, v :: st, h)
  | .ldc_w _ => some ([], pc + len, lv, v :: st, h)
  | .ldc2_w _ => some ([], pc + len, lv, v :: st, h)
  | .iload _ => match lv[x]? with
    | some (some (.int a)) => some ([], pc + len, lv, .int a :: st, h)
    | _ => none
  | .iload_n _ => match lv[x]? with
    | some (some (.int a)) => some ([], pc + len, lv, .int a :: st, h)
    | _ => none
  | .lload _ => match lv[x]? with
    | some (some (.long a)) => some ([], pc + len, lv, .long a :: st, h)
    | _ => none
  | .lload_n _ => match lv[x]? with
    | some (some (.long a)) => some ([], pc + len, lv, .long a :: st, h)
    | _ => none
  | .aload _ => match lv[x]? with
    | some (some w) => bif mm_isr w then some ([], pc + len, lv, w :: st, h) else none
    | _ => none
  | .aload_n _ => match lv[x]? with
    | some (some w) => bif mm_isr w then some ([], pc + len, lv, w :: st, h) else none
    | _ => none
  | .istore _ => match st with
    | .int a :: r => bif mm_pr lv x && Nat.blt x lv.length then some ([], pc + len, lv.set x (some (.int a)), r, h) else none
    | _ => none
  | .istore_n _ => match st with
    | .int a :: r => bif mm_pr lv x && Nat.blt x lv.length then some ([], pc + len, lv.set x (some (.int a)), r, h) else none
    | _ => none
  | .lstore _ => match st with
    | .long a :: r => bif mm_pr lv x && Nat.blt (x + 1) lv.length then some ([], pc + len, (lv.set x (some (.long a))).set (x + 1) none, r, h) else none
    | _ => none
  | .lstore_n _ => match st with
    | .long a :: r => bif mm_pr lv x && Nat.blt (x + 1) lv.length then some ([], pc + len, (lv.set x (some (.long a))).set (x + 1) none, r, h) else none
    | _ => none
  | .astore _ => match st with
    | w :: r => bif mm_isr w && (mm_pr lv x && Nat.blt x lv.length) then some ([], pc + len, lv.set x (some w), r, h) else none
    | _ => none
  | .astore_n _ => match st with
    | w :: r => bif mm_isr w && (mm_pr lv x && Nat.blt x lv.length) then some ([], pc + len, lv.set x (some w), r, h) else none
    | _ => none
  | .iinc _ _ => match lv[x]?, v with
    | some (some (.int a)), .int c => bif mm_pr lv x then some ([], pc + 3, lv.set x (some (.int (a + c))), st, h) else none
    | _, _ => none
  | .goto _ => some ([], y, lv, st, h)
  | .getfield _ => match st with
    | .ref k :: r => match mm_gf h k x y with
      | some w => bif x == 99 then none else some ([], pc + 3, lv, w :: r, h)
      | none => none
    | _ => none
  | .putfield _ => match st with
    | w :: .ref k :: r => match mm_wr h k x y w with
      | some (cs, h') => some (cs, pc + 3, lv, r, h')
      | none => none
    | _ => none
  | .iaload => match st with
    | .int a :: .ref k :: r => match h.1[k]? with
      | some (.inl (0, n)) => bif len == 1 then some ([vp_in a n], pc + 1, lv, .int (h.2.1 k a.toNatClampNeg) :: r, h) else none
      | _ => none
    | .int a :: .float _ :: r => bif len == 1 then some ([vp_in a h.2.2.2.1], pc + 1, lv, .int (h.2.2.2.2 a.toNatClampNeg) :: r, h) else none
    | _ => none
  | .baload => match st with
    | .int a :: .ref k :: r => match h.1[k]? with
      | some (.inl (1, n)) => bif len == 1 then some ([vp_in a n], pc + 1, lv, .int (h.2.1 k a.toNatClampNeg) :: r, h) else none
      | _ => none
    | _ => none
  | .iastore => match st with
    | .int b :: .int a :: .ref k :: r => match h.1[k]? with
      | some (.inl (0, n)) => bif len == 1 then some ([vp_in a n], pc + 1, lv, r, h.1, mm_up h.2.1 k a.toNatClampNeg b, h.2.2) else none
      | _ => none
    | _ => none
  | .bastore => match st with
    | .int b :: .int a :: .ref k :: r => match h.1[k]? with
      | some (.inl (1, n)) => bif len == 1 then some ([vp_in a n, vp_nar .boolean b = b], pc + 1, lv, r, h.1, mm_up h.2.1 k a.toNatClampNeg b, h.2.2) else none
      | _ => none
    | _ => none
  | .arraylength => match st with
    | .ref k :: r => match h.1[k]? with
      | some (.inl (t, n)) => bif len == 1 && Nat.blt t 5 then some ([], pc + 1, lv, .int (nI n) :: r, h) else none
      | _ => none
    | .float _ :: r => bif len == 1 then some ([], pc + 1, lv, .int (nI h.2.2.2.1) :: r, h) else none
    | _ => none
  | i => match mm_op i st with
    | some (cs, st') => bif len == 1 then some (cs, pc + 1, lv, st', h) else none
    | none => none
/-- a stretch of rows -/
def mm_xs : List mm_E → mm_S → Option (List Prop × mm_S)
  | [], s => some ([], s)
  | e :: es, s => bif s.1 == e.1 then (match mm_x1 e.2.1 e.1 e.2.2.1 e.2.2.2.1 e.2.2.2.2.1 e.2.2.2.2.2 s.2.1 s.2.2.1 s.2.2.2 with
    | some (cs, s1) => match mm_xs es s1 with
      | some (cs', s2) => some (cs ++ cs', s2)
      | none => none
    | none => none) else none
