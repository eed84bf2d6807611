/-! ===== straight code by evaluation ===== -/
def mm_all : List Prop → Prop
  | [] => True
  | [p] => p
  | p :: q :: ps => p ∧ mm_all (q :: ps)
theorem mm_all_app {a b : List Prop} (h : mm_all (a ++ b)) : mm_all a ∧ mm_all b := by
  induction a with
  | nil => exact ⟨trivial, h⟩
  | cons p ps ih =>
    cases ps with
    | nil =>
      cases b with
      | nil => exact ⟨h, trivial⟩
      | cons q b => exact h
    | cons q ps =>
      obtain ⟨h1, h2⟩ := h
      exact ⟨⟨h1, (ih h2).1⟩, (ih h2).2⟩
/-- a reference, or null -/
def mm_isr : Value → Bool
  | .ref _ => true
  | .retAddr _ => true
  | .float _ => true
  | .null => true
  | _ => false
theorem mm_isr_rv {X : mm_X} {ad : Nat → Nat} {v : Value} (h : mm_isr v = true) : (∃ a, mm_rv X ad v = .ref a) ∨ mm_rv X ad v = .null := by
  cases v <;> first | exact Or.inl ⟨_, rfl⟩ | exact Or.inr rfl | cases h
/-- instructions of the stack alone, one byte long -/
def mm_op (i : Instr) (st : List Value) : Option (List Prop × List Value) :=
  match i, st with
  | .iadd, .int y :: .int x :: r => some ([], .int (x + y) :: r)
  | .isub, .int y :: .int x :: r => some ([], .int (x - y) :: r)
  | .imul, .int y :: .int x :: r => some ([], .int (x * y) :: r)
  | .iand, .int y :: .int x :: r => some ([], .int (x &&& y) :: r)
  | .ior, .int y :: .int x :: r => some ([], .int (x ||| y) :: r)
  | .ixor, .int y :: .int x :: r => some ([], .int (x ^^^ y) :: r)
  | .idiv, .int y :: .int x :: r => some ([¬ y = 0], .int (x / y) :: r)
  | .irem, .int y :: .int x :: r => some ([¬ y = 0], .int (x - x / y * y) :: r)
  | .ineg, .int x :: r => some ([], .int (-x) :: r)
  | .ishl, .int y :: .int x :: r => some ([], .int (x <<< (y &&& 31)) :: r)
  | .ishr, .int y :: .int x :: r => some ([], .int (x >>> (y &&& 31)) :: r)
  | .iushr, .int y :: .int x :: r => some ([], .int ((x.toUInt32 >>> (y.toUInt32 &&& Int32.toUInt32 31)).toInt32) :: r)
  | .ladd, .long y :: .long x :: r => some ([], .long (x + y) :: r)
  | .lsub, .long y :: .long x :: r => some ([], .long (x - y) :: r)
  | .lmul, .long y :: .long x :: r => some ([], .long (x * y) :: r)
  | .ldiv, .long y :: .long x :: r => some ([¬ y = 0], .long (x / y) :: r)
  | .lrem, .long y :: .long x :: r => some ([¬ y = 0], .long (x - x / y * y) :: r)
  | .lcmp, .long y :: .long x :: r => some ([], .int (lg_cmp x y) :: r)
  | .i2l, .int x :: r => some ([], .long x.toInt64 :: r)
  | .l2i, .long x :: r => some ([], .int x.toInt32 :: r)
  | .i2b, .int x :: r => some ([], .int x.toInt8.toInt32 :: r)
  | .i2s, .int x :: r => some ([], .int x.toInt16.toInt32 :: r)
  | .i2c, .int x :: r => some ([], .int (x.toUInt32 % 65536).toInt32 :: r)
  | .dup, v :: r => match v.category with
    | 1 => some ([], v :: v :: r)
    | _ => none
  | .dup2, v :: w :: r => match v.category, w.category with
    | 1, 1 => some ([], v :: w :: v :: w :: r)
    | _, _ => none
  | .pop, v :: r => match v.category with
    | 1 => some ([], r)
    | _ => none
  | _, _ => none
section
variable {d : Nat} {M : mm_M} {mc ms : Nat} {Q : Option Value → mm_Hp → Prop} {nc ns pc : Nat} {lv : mm_L} {st : List Value} {h : mm_Hp}
theorem mm_op_ok {i : Instr} {cs : List Prop} {st' : List Value} (hx : mm_op i st = some (cs, st')) (hc : mm_all cs) (hd : decode M.2.1 pc = .ok (i, 1)) (k : mm_W d M mc ms Q nc ns (pc + 1, lv, st', h)) : mm_W d M mc ms Q nc ns (pc, lv, st, h) := by
  intro p l e s m args below meth c X ad0 n0 ad H locs ls C ha hn hR hS hl
  have k' := k p l e s m args below meth c X ad0 n0 ad H locs ls C ha hn hR hS hl
  unfold mm_op at hx
  split at hx
  · cases hx; exact lv_iadd C.1 C.2.1 hd k'
  · cases hx; exact lv_isub C.1 C.2.1 hd k'
  · cases hx; exact lv_imul C.1 C.2.1 hd k'
  · cases hx; exact lv_iand C.1 C.2.1 hd k'
  · cases hx; exact lv_ior C.1 C.2.1 hd k'
  · cases hx; exact lv_ixor C.1 C.2.1 hd k'
  · cases hx; exact lv_idiv C.1 C.2.1 hd hc k'
  · cases hx; exact lv_irem C.1 C.2.1 hd hc k'
  · cases hx; exact lv_ineg C.1 C.2.1 hd k'
  · cases hx; exact lv_ishl C.1 C.2.1 hd k'
  · cases hx; exact lv_ishr C.1 C.2.1 hd k'
  · cases hx; exact lv_iushr C.1 C.2.1 hd rfl k'
  · cases hx; exact lv_ladd C.1 C.2.1 hd k'
  · cases hx; exact lv_lsub C.1 C.2.1 hd k'
  · cases hx; exact lv_lmul C.1 C.2.1 hd k'
  · cases hx; exact lv_ldiv C.1 C.2.1 hd hc k'
  · cases hx; exact lv_lrem C.1 C.2.1 hd hc k'
  · cases hx; exact W.lcmp C.1 C.2.1 hd k'
  · cases hx; exact lv_i2l C.1 C.2.1 hd rfl k'
  · cases hx; exact lv_l2i C.1 C.2.1 hd rfl k'
  · cases hx; exact lv_i2b C.1 C.2.1 hd rfl k'
  · cases hx; exact lv_i2s C.1 C.2.1 hd rfl k'
  · cases hx; exact lv_i2c C.1 C.2.1 hd rfl k'
  · rename_i v r
    split at hx
    · rename_i hv
      cases hx; exact lv_dup C.1 C.2.1 hd ((mm_rv_cat v).trans hv) k'
    · cases hx
  · rename_i v w r
    split at hx
    · rename_i hv hw
      cases hx; exact lv_dup2_11 C.1 C.2.1 hd ((mm_rv_cat v).trans hv) ((mm_rv_cat w).trans hw) k'
    · cases hx
  · rename_i v r
    split at hx
    · rename_i hv
      cases hx; exact lv_pop C.1 C.2.1 hd ((mm_rv_cat v).trans hv) k'
    · cases hx
  · cases hx
/-- the locals' loads and stores -/
theorem mm_ldi {x : Int32} {i len : Nat} (hv : lv[i]? = some (some (.int x))) (hd : decode M.2.1 pc = .ok (.iload i, 2) ∧ len = 2 ∨ ∃ k : Fin 4, (k : Nat) = i ∧ decode M.2.1 pc = .ok (.iload_n k, 1) ∧ len = 1) (k : mm_W d M mc ms Q nc ns (pc + len, lv, .int x :: st, h)) : mm_W d M mc ms Q nc ns (pc, lv, st, h) := by
  intro p l e s m args below meth c X ad0 n0 ad H locs ls C ha hn hR hS hl
  have k' := k p l e s m args below meth c X ad0 n0 ad H locs ls C ha hn hR hS hl
  have hg := hl.2.2.2 _ _ hv
  rcases hd with ⟨h1, rfl⟩ | ⟨q, h0, h1, rfl⟩
  · exact lv_iload C.1 C.2.1 h1 hg k'
  · exact lv_iload_n C.1 C.2.1 h1 h0 hg k'
theorem mm_ldl {x : Int64} {i len : Nat} (hv : lv[i]? = some (some (.long x))) (hd : decode M.2.1 pc = .ok (.lload i, 2) ∧ len = 2 ∨ ∃ k : Fin 4, (k : Nat) = i ∧ decode M.2.1 pc = .ok (.lload_n k, 1) ∧ len = 1) (k : mm_W d M mc ms Q nc ns (pc + len, lv, .long x :: st, h)) : mm_W d M mc ms Q nc ns (pc, lv, st, h) := by
  intro p l e s m args below meth c X ad0 n0 ad H locs ls C ha hn hR hS hl
  have k' := k p l e s m args below meth c X ad0 n0 ad H locs ls C ha hn hR hS hl
  have hg := hl.2.2.2 _ _ hv
  rcases hd with ⟨h1, rfl⟩ | ⟨q, h0, h1, rfl⟩
  · exact lv_lload C.1 C.2.1 h1 hg k'
  · exact lv_lload_n C.1 C.2.1 h1 h0 hg k'
theorem mm_lda {v : Value} {i len : Nat} (hv : lv[i]? = some (some v)) (hr : mm_isr v = true) (hd : decode M.2.1 pc = .ok (.aload i, 2) ∧ len = 2 ∨ ∃ k : Fin 4, (k : Nat) = i ∧ decode M.2.1 pc = .ok (.aload_n k, 1) ∧ len = 1) (k : mm_W d M mc ms Q nc ns (pc + len, lv, v :: st, h)) : mm_W d M mc ms Q nc ns (pc, lv, st, h) := by
  intro p l e s m args below meth c X ad0 n0 ad H locs ls C ha hn hR hS hl
  have k' := k p l e s m args below meth c X ad0 n0 ad H locs ls C ha hn hR hS hl
  have hg := hl.2.2.2 _ _ hv
  simp only [List.map_cons] at k'
  rcases mm_isr_rv (X := X) (ad := ad) hr with ⟨a, ev⟩ | ev
  · rw [ev] at hg k'
    rcases hd with ⟨h1, rfl⟩ | ⟨q, h0, h1, rfl⟩
    · exact lv_aload C.1 C.2.1 h1 hg k'
    · exact lv_aload_n C.1 C.2.1 h1 h0 hg k'
  · rw [ev] at hg k'
    rcases hd with ⟨h1, rfl⟩ | ⟨q, h0, h1, rfl⟩
    · exact lv_aloadN C.1 C.2.1 h1 hg k'
    · exact lv_aload_nN C.1 C.2.1 h1 h0 hg k'
theorem mm_sti {x : Int32} {i len : Nat} (hp : mm_pr lv i = true) (hi : i < lv.length) (hd : decode M.2.1 pc = .ok (.istore i, 2) ∧ len = 2 ∨ ∃ k : Fin 4, (k : Nat) = i ∧ decode M.2.1 pc = .ok (.istore_n k, 1) ∧ len = 1) (k : mm_W d M mc ms Q nc ns (pc + len, lv.set i (some (.int x)), st, h)) : mm_W d M mc ms Q nc ns (pc, lv, .int x :: st, h) := by
  intro p l e s m args below meth c X ad0 n0 ad H locs ls C ha hn hR hS hl
  have hi' : i < M.2.2.1 := hl.1 ▸ hi
  rcases hd with ⟨h1, rfl⟩ | ⟨q, h0, h1, rfl⟩
  · exact lv_istore C.1 C.2.1 h1 hl.has hi' rfl (fun ls' hl' => k p l e s m args below meth c X ad0 n0 ad H locs ls' C ha hn hR hS (hl.st1 (v := .int x) hp hl'))
  · exact lv_istore_n C.1 C.2.1 h1 h0 hl.has hi' rfl (fun ls' hl' => k p l e s m args below meth c X ad0 n0 ad H locs ls' C ha hn hR hS (hl.st1 (v := .int x) hp hl'))
theorem mm_stl {x : Int64} {i len : Nat} (hp : mm_pr lv i = true) (hi : i + 1 < lv.length) (hd : decode M.2.1 pc = .ok (.lstore i, 2) ∧ len = 2 ∨ ∃ k : Fin 4, (k : Nat) = i ∧ decode M.2.1 pc = .ok (.lstore_n k, 1) ∧ len = 1) (k : mm_W d M mc ms Q nc ns (pc + len, (lv.set i (some (.long x))).set (i + 1) none, st, h)) : mm_W d M mc ms Q nc ns (pc, lv, .long x :: st, h) := by
  intro p l e s m args below meth c X ad0 n0 ad H locs ls C ha hn hR hS hl
  have hi' : i + 1 < M.2.2.1 := hl.1 ▸ hi
  rcases hd with ⟨h1, rfl⟩ | ⟨q, h0, h1, rfl⟩
  · exact lv_lstore C.1 C.2.1 h1 hl.has hi' rfl (fun ls' hl' => k p l e s m args below meth c X ad0 n0 ad H locs ls' C ha hn hR hS (hl.st2 (v := .long x) hp hl'))
  · exact lv_lstore_n C.1 C.2.1 h1 h0 hl.has hi' rfl (fun ls' hl' => k p l e s m args below meth c X ad0 n0 ad H locs ls' C ha hn hR hS (hl.st2 (v := .long x) hp hl'))
theorem mm_sta {v : Value} {i len : Nat} (hr : mm_isr v = true) (hp : mm_pr lv i = true) (hi : i < lv.length) (hd : decode M.2.1 pc = .ok (.astore i, 2) ∧ len = 2 ∨ ∃ k : Fin 4, (k : Nat) = i ∧ decode M.2.1 pc = .ok (.astore_n k, 1) ∧ len = 1) (k : mm_W d M mc ms Q nc ns (pc + len, lv.set i (some v), st, h)) : mm_W d M mc ms Q nc ns (pc, lv, v :: st, h) := by
  intro p l e s m args below meth c X ad0 n0 ad H locs ls C ha hn hR hS hl
  have hi' : i < M.2.2.1 := hl.1 ▸ hi
  have hs := fun ls' hl' => hl.st1 (ls' := ls') (v := v) (i := i) hp hl'
  simp only [List.map_cons]
  rcases mm_isr_rv (X := X) (ad := ad) hr with ⟨a, ev⟩ | ev
  · rw [ev] at hs ⊢
    rcases hd with ⟨h1, rfl⟩ | ⟨q, h0, h1, rfl⟩
    · exact lv_astore C.1 C.2.1 h1 hl.has hi' rfl (fun ls' hl' => k p l e s m args below meth c X ad0 n0 ad H locs ls' C ha hn hR hS (hs ls' hl'))
    · exact lv_astore_n C.1 C.2.1 h1 h0 hl.has hi' rfl (fun ls' hl' => k p l e s m args below meth c X ad0 n0 ad H locs ls' C ha hn hR hS (hs ls' hl'))
  · rw [ev] at hs ⊢
    rcases hd with ⟨h1, rfl⟩ | ⟨q, h0, h1, rfl⟩
    · exact lv_astoreN C.1 C.2.1 h1 hl.has hi' rfl (fun ls' hl' => k p l e s m args below meth c X ad0 n0 ad H locs ls' C ha hn hR hS (hs ls' hl'))
    · exact lv_astore_nN C.1 C.2.1 h1 h0 hl.has hi' rfl (fun ls' hl' => k p l e s m args below meth c X ad0 n0 ad H locs ls' C ha hn hR hS (hs ls' hl'))
theorem mm_inc {x v : Int32} {i : Nat} {n : Int} (hv : lv[i]? = some (some (.int x))) (hc : Int32.ofInt n = v) (hp : mm_pr lv i = true) (hd : decode M.2.1 pc = .ok (.iinc i n, 3)) (k : mm_W d M mc ms Q nc ns (pc + 3, lv.set i (some (.int (x + v))), st, h)) : mm_W d M mc ms Q nc ns (pc, lv, st, h) := by
  intro p l e s m args below meth c X ad0 n0 ad H locs ls C ha hn hR hS hl
  have hi' : i < M.2.2.1 := hl.1 ▸ (List.getElem?_eq_some_iff.mp hv).1
  obtain ⟨j, hj⟩ := List.getElem?_of_mem ((mm_as_in (X := X) (ad := ad)).mpr ⟨_, hv, rfl⟩)
  exact lv_iinc C.1 C.2.1 hd hl.has hj (by rw [hc]) hi' rfl (fun ls' hl' => k p l e s m args below meth c X ad0 n0 ad H locs ls' C ha hn hR hS (hl.st1 (v := .int (x + v)) hp hl'))
theorem mm_goto {off : Int} {tgt : Nat} (hd : decode M.2.1 pc = .ok (.goto off, 3)) (ht : (pc : Int) + off = (tgt : Int)) (k : mm_W d M mc ms Q nc ns (tgt, lv, st, h)) : mm_W d M mc ms Q nc ns (pc, lv, st, h) := by
  intro p l e s m args below meth c X ad0 n0 ad H locs ls C ha hn hR hS hl
  exact lv_goto C.1 C.2.1 hd ht (k p l e s m args below meth c X ad0 n0 ad H locs ls C ha hn hR hS hl)
end
