/-! ===== String constants over the picture: .retAddr i the text i, .retAddr (100 + i) its bytes, .retAddr 200 a formatter that is never used ===== -/
theorem mm_rv_k {X : mm_X} {ad : Nat → Nat} {i : Nat} (hi : i < 12) : mm_rv X ad (.retAddr i) = .ref (X.2.2.2.1.1 i) := by
  have : Nat.ble 100 i = false := by
    cases h9 : Nat.ble 100 i with
    | false => rfl
    | true => have := Nat.le_of_ble_eq_true h9; omega
  simp [mm_rv, this]
theorem mm_rv_b {X : mm_X} {ad : Nat → Nat} {i : Nat} (hi : i < 12) : mm_rv X ad (.retAddr (100 + i)) = .ref (X.2.2.2.1.2 i) := by
  have h1 : Nat.ble 100 (100 + i) = true := Nat.ble_eq_true_of_le (by omega)
  have h2 : Nat.blt (100 + i) 200 = true := Nat.blt_eq.mpr (by omega)
  simp [mm_rv, h1, h2]
section
variable {d : Nat} {M : mm_M} {mc ms : Nat} {Q : Option Value → mm_Hp → Prop} {nc ns pc : Nat} {lv : mm_L} {st : List Value} {h : mm_Hp}
theorem mm_gsC {idx : Nat} (hlk : Cond.fieldLink M.1.cls idx "java/lang/String" "COMPACT_STRINGS" "Z" ∈ mm_G) (hd : decode M.2.1 pc = .ok (.getstatic idx, 3)) (k : mm_W d M mc ms Q nc ns (pc + 3, lv, .int 1 :: st, h)) : mm_W d M mc ms Q nc ns (pc, lv, st, h) := by
  intro p l e s m args below meth c X ad0 n0 ad H locs ls C ha hn hR hS hl
  have k' := k p l e s m args below meth c X ad0 n0 ad H locs ls C ha hn hR hS hl
  obtain ⟨hx, hb, hml, hr, hlo, hown, hts, hnm, hT, hO⟩ := C
  exact va_gets hx hb hO.2.1 hS hown (hts _ hlk) (fun x hx => hx) hd k'
theorem mm_gsF {idx : Nat} (hlk : Cond.fieldLink M.1.cls idx "jdk/internal/util/Preconditions" "SIOOBE_FORMATTER" "Ljava/util/function/BiFunction;" ∈ mm_G) (hd : decode M.2.1 pc = .ok (.getstatic idx, 3)) (k0 : mm_W d M mc ms Q nc ns (pc + 3, lv, .null :: st, h)) (k1 : mm_W d M mc ms Q nc ns (pc + 3, lv, .retAddr 200 :: st, h)) : mm_W d M mc ms Q nc ns (pc, lv, st, h) := by
  intro p l e s m args below meth c X ad0 n0 ad H locs ls C ha hn hR hS hl
  have k0' := k0 p l e s m args below meth c X ad0 n0 ad H locs ls C ha hn hR hS hl
  have k1' := k1 p l e s m args below meth c X ad0 n0 ad H locs ls C ha hn hR hS hl
  obtain ⟨hx, hb, hml, hr, hlo, hown, hts, hnm, hT, hO⟩ := C
  rcases hO.2.2.2.2.2 with hz | hz
  · exact va_gets hx hb hz hS hown (hts _ hlk) (fun x hx => hx) hd k0'
  · exact va_gets hx hb hz hS hown (hts _ hlk) (fun x hx => hx) hd k1'
theorem mm_gfV {idx i : Nat} (hi : i < 12) (hlk : Cond.fieldLink M.1.cls idx "java/lang/String" "value" "[B" ∈ mm_G) (hd : decode M.2.1 pc = .ok (.getfield idx, 3)) (k : mm_W d M mc ms Q nc ns (pc + 3, lv, .retAddr (100 + i) :: st, h)) : mm_W d M mc ms Q nc ns (pc, lv, .retAddr i :: st, h) := by
  intro p l e s m args below meth c X ad0 n0 ad H locs ls C ha hn hR hS hl
  have k' := k p l e s m args below meth c X ad0 n0 ad H locs ls C ha hn hR hS hl
  obtain ⟨hx, hb, hml, hr, hlo, hown, hts, hnm, hT, hO⟩ := C
  simp only [List.map_cons, mm_rv_b hi] at k'
  simp only [List.map_cons, mm_rv_k hi]
  exact vk_getf hx hb (hO.1.1 i hi).2.2.1 hS hown (hts _ hlk) (fun x hx => hx) hd k'
theorem mm_gfC {idx i : Nat} (hi : i < 12) (hlk : Cond.fieldLink M.1.cls idx "java/lang/String" "coder" "B" ∈ mm_G) (hd : decode M.2.1 pc = .ok (.getfield idx, 3)) (k : mm_W d M mc ms Q nc ns (pc + 3, lv, .int 0 :: st, h)) : mm_W d M mc ms Q nc ns (pc, lv, .retAddr i :: st, h) := by
  intro p l e s m args below meth c X ad0 n0 ad H locs ls C ha hn hR hS hl
  have k' := k p l e s m args below meth c X ad0 n0 ad H locs ls C ha hn hR hS hl
  obtain ⟨hx, hb, hml, hr, hlo, hown, hts, hnm, hT, hO⟩ := C
  simp only [List.map_cons, mm_rv_k hi]
  exact vk_getf hx hb (hO.1.1 i hi).2.1 hS hown (hts _ hlk) (fun x hx => hx) hd k'
theorem mm_stl' {i : Nat} (hi : i < 12) (hd : decode M.2.1 pc = .ok (.arraylength, 1)) (k : mm_W d M mc ms Q nc ns (pc + 1, lv, .int (nI (mm_sl.getD i 0)) :: st, h)) : mm_W d M mc ms Q nc ns (pc, lv, .retAddr (100 + i) :: st, h) := by
  intro p l e s m args below meth c X ad0 n0 ad H locs ls C ha hn hR hS hl
  have k' := k p l e s m args below meth c X ad0 n0 ad H locs ls C ha hn hR hS hl
  obtain ⟨hx, hb, hml, hr, hlo, hown, hts, hnm, hT, hO⟩ := C
  simp only [List.map_cons, mm_rv_b hi]
  exact va_tlen hx hb (hO.1.1 i hi).2.2.2 hS rfl hd k'
theorem mm_stb {i : Nat} {a : Int32} (hi : i < 12) (ha0 : vp_in a (mm_sl.getD i 0)) (hd : decode M.2.1 pc = .ok (.baload, 1)) (k : mm_W d M mc ms Q nc ns (pc + 1, lv, .int ((mm_sb.getD i []).getD a.toNatClampNeg 0) :: st, h)) : mm_W d M mc ms Q nc ns (pc, lv, .int a :: .retAddr (100 + i) :: st, h) := by
  intro p l e s m args below meth c X ad0 n0 ad H locs ls C ha hn hR hS hl
  have k' := k p l e s m args below meth c X ad0 n0 ad H locs ls C ha hn hR hS hl
  obtain ⟨hx, hb, hml, hr, hlo, hown, hts, hnm, hT, hO⟩ := C
  simp only [List.map_cons, mm_rv_b hi]
  exact va_tb hx hb (hO.1.1 i hi).2.2.2 hS ha0 rfl hd k'
/-- a String's own method, of a constant -/
theorem mm_cT {N : mm_M} {as : List Value} {i idx d' mc' ms' : Nat} {Q' : Option Value → mm_Hp → Prop} (hi : i < 12) (hN : mm_cw N as.length) (hlk : Cond.methodLink M.1.cls idx N.1 ∈ mm_G) (hin : Cond.instanceMethod N.1 ∈ mm_G) (hsl : Cond.selects "java/lang/String" N.1 N.1 ∈ mm_G) (hd : decode M.2.1 pc = .ok (.invokevirtual idx, 3)) (hct : mm_Ct d' N (.retAddr i :: as) h mc' ms' Q') (hdd : d' + 1 ≤ d) (hm : nc + mc' ≤ mc ∧ ns + ms' ≤ ms) (hcat : (st.map Value.category).sum ≤ 8) (hvs : mm_vs h.1.length lv st)
    (kk : ∀ v h', Q' v h' → mm_W d M mc ms Q (nc + mc') (ns + ms') (pc + 3, lv, v.toList ++ st, h')) : mm_W d M mc ms Q nc ns (pc, lv, as.reverse ++ .retAddr i :: st, h) := by
  intro p l e s m args below meth c X ad0 n0 ad H locs ls C ha hn hR hS hl
  have C' := C
  obtain ⟨hx, hb, hml, hr, hlo, hown, hts, hnm, hT, hO⟩ := C'
  refine mm_after hvs kk C ha hn hS hl (a := ((.retAddr i :: as).map (mm_rv X ad)).toArray) ?_
  have e0 := mm_rv_k (X := X) (ad := ad) hi
  have hpre := mm_pre (as := .retAddr i :: as) hT hO hR hS
  simp only [List.map_cons, e0] at hpre ⊢
  refine va_runV (As := as.map (mm_rv X ad)) (C := "java/lang/String") (n := as.length) (b := X.2.2.2.1.1 i) ⟨hx, hb, hml, hown, hts⟩ (hct l X ad) ⟨mm_CB hN hlk hdd hts, hts _ hin, hts _ hsl⟩ ⟨mm_P_blind, vk_recv hO.1 hi hS, hpre⟩ rfl (by rw [List.length_map]) hl.2.1 ?_ (lv_room (m := m) (pc := pc) (ls := ls) (rest := []) (mm_cats hcat)) hd hm
  show ((as.reverse ++ .retAddr i :: st).map (mm_rv X ad)) = _
  rw [List.map_append, List.map_reverse, List.map_cons, e0]
end
