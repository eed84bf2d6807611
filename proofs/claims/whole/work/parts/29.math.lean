/-! ===== Math.max, Math.min; plain names ===== -/
theorem pl_Bo : plainName "SchoolOnRaft$Board" = true := by decide +kernel
theorem pl_Hk : plainName "SchoolOnRaft$HardKind" = true := by decide +kernel
theorem pl_Kd : plainName "SchoolOnRaft$Kind" = true := by decide +kernel
theorem pl_Li : plainName "SchoolOnRaft$LightKind" = true := by decide +kernel
theorem pl_Lo : plainName "SchoolOnRaft$LongKind" = true := by decide +kernel
theorem pl_Pk : plainName "SchoolOnRaft$ProofKind" = true := by decide +kernel
theorem pl_Re : plainName "SchoolOnRaft$Reader" = true := by decide +kernel
theorem pl_Se : plainName "SchoolOnRaft$Search" = true := by decide +kernel
theorem pl_So : plainName "SchoolOnRaft$SongKind" = true := by decide +kernel
theorem pl_Sp : plainName "SchoolOnRaft$Spring" = true := by decide +kernel
theorem pl_Te : plainName "SchoolOnRaft$Text" = true := by decide +kernel
theorem pl_Sc : plainName "SchoolOnRaft" = true := by decide +kernel
theorem pl_Mo : plainName "SchoolOnRaftModel" = true := by decide +kernel
theorem pl_Ar : plainName "java/util/Arrays" = true := by decide +kernel
theorem pl_In : plainName "java/lang/Integer" = true := by decide +kernel
theorem pl_St : plainName "java/lang/String" = true := by decide +kernel
theorem pl_Sl : plainName "java/lang/StringLatin1" = true := by decide +kernel
theorem pl_Pr : plainName "jdk/internal/util/Preconditions" = true := by decide +kernel
theorem pl_La : plainName "SchoolOnRaftLaw" = true := by decide +kernel
section
variable {d : Nat} {M : mm_M} {mc ms : Nat} {Q : Option Value → mm_Hp → Prop} {nc ns pc : Nat} {lv : mm_L} {st : List Value} {h : mm_Hp}
theorem mm_max_c : Cond.code Lib.Math.max.name Lib.Math.max.code 2 (some .int) ∈ mm_G := by
  have h := cw_Ma_max.1
  have e : Lib.Math.max.code = M_Ma_max.2.1 := by decide +kernel
  rw [e]
  exact h
theorem mm_min_c : Cond.code Lib.Math.min.name Lib.Math.min.code 2 (some .int) ∈ mm_G := by
  have h := cw_Ma_min.1
  have e : Lib.Math.min.code = M_Ma_min.2.1 := by decide +kernel
  rw [e]
  exact h
theorem mm_max {x y : Int32} {idx : Nat} (hlk : Cond.methodLink M.1.cls idx M_Ma_max.1 ∈ mm_G) (hd : decode M.2.1 pc = .ok (.invokestatic idx, 3)) (hdd : 1 ≤ d) (hm : nc ≤ mc ∧ ns ≤ ms) (hcat : (st.map Value.category).sum ≤ 8) (kk : mm_W d M mc ms Q nc ns (pc + 3, lv, .int (if x < y then y else x) :: st, h)) : mm_W d M mc ms Q nc ns (pc, lv, .int y :: .int x :: st, h) := by
  intro p l e s m args below meth c X ad0 n0 ad H locs ls C ha hn hR hS hl
  have k' := kk p l e s m args below meth c X ad0 n0 ad H locs ls C ha hn hR hS hl
  obtain ⟨hx, hb, hml, hr, hlo, hown, hts, hnm, hT, hO⟩ := C
  have h8 := mm_cats (X := X) (ad := ad) hcat
  exact va_mmax hx hb (by rw [hml]; exact hl.2.1.symm) hown (hts _ hlk) (hts _ sx_Ma_max) (hts _ cw_Ma_max.2.1) (hts _ mm_max_c) hdd (by show _ ≤ 41 * d + 32; omega) hm.1 hm.2 hd k'
theorem mm_min {x y : Int32} {idx : Nat} (hlk : Cond.methodLink M.1.cls idx M_Ma_min.1 ∈ mm_G) (hd : decode M.2.1 pc = .ok (.invokestatic idx, 3)) (hdd : 1 ≤ d) (hm : nc ≤ mc ∧ ns ≤ ms) (hcat : (st.map Value.category).sum ≤ 8) (kk : mm_W d M mc ms Q nc ns (pc + 3, lv, .int (if y < x then y else x) :: st, h)) : mm_W d M mc ms Q nc ns (pc, lv, .int y :: .int x :: st, h) := by
  intro p l e s m args below meth c X ad0 n0 ad H locs ls C ha hn hR hS hl
  have k' := kk p l e s m args below meth c X ad0 n0 ad H locs ls C ha hn hR hS hl
  obtain ⟨hx, hb, hml, hr, hlo, hown, hts, hnm, hT, hO⟩ := C
  have h8 := mm_cats (X := X) (ad := ad) hcat
  exact va_mmin hx hb (by rw [hml]; exact hl.2.1.symm) hown (hts _ hlk) (hts _ sx_Ma_min) (hts _ cw_Ma_min.2.1) (hts _ mm_min_c) hdd (by show _ ≤ 41 * d + 32; omega) hm.1 hm.2 hd k'
end
/-- some locals are forgotten -/
def mm_drop (lv : mm_L) : List Nat → mm_L
  | [] => lv
  | i :: is => mm_drop (lv.set i none) is
theorem mm_lh.none {X : mm_X} {ad : Nat → Nat} {ls : Array Slot} {nL : Nat} {lv : mm_L} (h : mm_lh X ad ls nL lv) (i : Nat) : mm_lh X ad ls nL (lv.set i none) := by
  refine ⟨by rw [List.length_set]; exact h.1, h.2.1, h.2.2.1, fun j v hv => h.2.2.2 j v ?_⟩
  by_cases e : i = j
  · subst e
    rw [List.getElem?_set_self (by have := (List.getElem?_eq_some_iff.mp hv).1; rwa [List.length_set] at this)] at hv
    cases hv
  · rwa [List.getElem?_set_ne e] at hv
theorem mm_lh.drop {X : mm_X} {ad : Nat → Nat} {ls : Array Slot} {nL : Nat} (is : List Nat) : ∀ {lv : mm_L}, mm_lh X ad ls nL lv → mm_lh X ad ls nL (mm_drop lv is) := by
  induction is with
  | nil => intro lv h; exact h
  | cons i is ih => intro lv h; exact ih (h.none i)
theorem mm_fg {d : Nat} {M : mm_M} {mc ms : Nat} {Q : Option Value → mm_Hp → Prop} {nc ns pc : Nat} {lv : mm_L} {st : List Value} {h : mm_Hp} (is : List Nat) (k : mm_W d M mc ms Q nc ns (pc, mm_drop lv is, st, h)) : mm_W d M mc ms Q nc ns (pc, lv, st, h) := by
  intro p l e s m args below meth c X ad0 n0 ad H locs ls C ha hn hR hS hl
  exact k p l e s m args below meth c X ad0 n0 ad H locs ls C ha hn hR hS (mm_lh.drop is hl)
/-- a switch, its target known -/
theorem mm_sw {d : Nat} {M : mm_M} {mc ms : Nat} {Q : Option Value → mm_Hp → Prop} {nc ns pc : Nat} {lv : mm_L} {st : List Value} {h : mm_Hp} {x : Int32} {dflt lo hi : Int} {offs : Array Int} {len tgt : Nat} (hd : decode M.2.1 pc = .ok (.tableswitch dflt lo hi offs, len)) (ht : ((x.toInt < lo ∨ hi < x.toInt) ∧ (pc : Int) + dflt = tgt) ∨ ((¬ (x.toInt < lo ∨ hi < x.toInt)) ∧ ∃ off, offs[(x.toInt - lo).toNat]? = some off ∧ (pc : Int) + off = tgt)) (k : mm_W d M mc ms Q nc ns (tgt, lv, st, h)) : mm_W d M mc ms Q nc ns (pc, lv, .int x :: st, h) := by
  intro p l e s m args below meth c X ad0 n0 ad H locs ls C ha hn hR hS hl
  have k' := k p l e s m args below meth c X ad0 n0 ad H locs ls C ha hn hR hS hl
  rcases ht with ⟨h1, h2⟩ | ⟨h1, off, h2, h3⟩
  · exact lv_tableOut C.1 C.2.1 hd h1 h2 k'
  · exact lv_tableIn C.1 C.2.1 hd (fun q => h1 (Or.inl q)) (fun q => h1 (Or.inr q)) h2 h3 k'
