/-! ===== calls over the picture ===== -/
theorem mm_AOA_spec {t : FieldType} {U : State} (h : va_AOA t U) :
    ∃ comp c k, U.vm.findClass (FieldType.array t).toString = some comp ∧ (U.vm.classes.findIdx? fun (x : Class) => match x.kind with | .array component _ => component == comp | _ => false) = some c ∧ U.vm.classes[c]? = some k ∧ k.kind = .array comp (.array t) ∧
      U.vm.findClass ("[" ++ (FieldType.array t).toString) = some c := by
  unfold va_AOA Cond.before at h
  simp only [Cond.holds, Cond.value, beq_iff_eq] at h
  cases hc : U.vm.findClass (FieldType.array t).toString with
  | none => simp [hc] at h
  | some comp =>
    simp only [hc, Option.bind_some, Option.bind_eq_some_iff, Option.map_eq_some_iff] at h
    obtain ⟨c, hi, k, hk, hb⟩ := h
    obtain ⟨hlt, hp, -⟩ := Array.findIdx?_eq_some_iff_getElem.mp hi
    have hkk : U.vm.classes[c] = k := (Array.getElem?_eq_some_iff.mp hk).2
    rw [hkk] at hp
    cases hkind : k.kind with
    | array component ty =>
      rw [hkind] at hb hp
      simp at hb hp
      exact ⟨comp, c, k, rfl, hi, hk, by rw [hkind, hp, hb.1], hb.2⟩
    | _ => rw [hkind] at hb; simp at hb
theorem mm_AOA_moved {t : FieldType} {u U : State} (hvm : u.vm.Alike U.vm) (h : va_AOA t u) : va_AOA t U := by
  obtain ⟨comp, c, k, h1, h2, h3, h4, h5⟩ := mm_AOA_spec h
  obtain ⟨k', hk', he⟩ := hvm.2.2 _ _ h3
  have hi : (U.vm.classes.findIdx? fun (x : Class) => match x.kind with | .array component _ => component == comp | _ => false) = some c := by
    have e1 := va_idx_bare U.vm comp
    have e2 := va_idx_bare u.vm comp
    have e3 : U.vm.bare = u.vm.bare := by first | exact hvm.bare_eq | exact hvm.bare_eq.symm
    rw [e3] at e1
    exact (e1.symm.trans e2).trans h2
  have hkind : k'.kind = .array comp (.array t) := by rw [he]; exact h4
  have f1 : U.vm.findClass (FieldType.array t).toString = some comp := by rw [hvm.findClass]; exact h1
  have f2 : U.vm.findClass ("[" ++ (FieldType.array t).toString) = some c := by rw [hvm.findClass]; exact h5
  unfold va_AOA Cond.before Cond.holds
  simp only [Cond.value]
  rw [f1, Option.bind_some]
  refine (congrArg (fun o : Option Nat => (o.bind (fun c => (U.vm.classes[c]?).map fun (k : Class) => match k.kind with | .array _ ty => decide (ty = FieldType.array t) && decide (U.vm.findClass ("[" ++ (FieldType.array t).toString) = some c) | _ => false) == some true)) hi).trans ?_
  simp [hk', hkind, f2]
theorem mm_N_warm {w : Cond} (hw : mm_isN w = true) {s U : State} (hW : s.WarmedH U.vm) (h : va_Nw w s) : va_Nw w U := by
  cases w <;> first | exact va_Nw.warmM hW h | exact va_Nw.warmC hW h | exact va_Nw.warmD hW h | cases hw
theorem mm_T.moved {X : mm_X} {s U : State} (hW : s.WarmedH U.vm) (h : mm_T X s) : mm_T X U := by
  obtain ⟨h1, h2, h3, h4, h5, h6, h7⟩ := h
  exact ⟨va_K.moved hW.alike h1, fun w hw => mm_N_warm (List.mem_filter.mp hw).2 hW (h2 w hw), va_AO.moved hW.alike h3, va_AO.moved hW.alike h4, mm_AOA_moved hW.alike h5, fun q hq => va_Nc.moved hW.alike (h6 q hq), fun i q hq => vk_R.warm hW (h7 i q hq)⟩
theorem mm_O.moved {X : mm_X} {s U : State} {H : Heap} (hv : s.vm.Alike U.vm) (h : mm_O X s H) : mm_O X U H :=
  ⟨vk_S.moved hv h.1, va_Z.moved hv h.2.1, va_X.moved hv h.2.2.1, h.2.2.2.1, h.2.2.2.2.1, h.2.2.2.2.2.imp (va_Z.moved hv) (va_Z.moved hv)⟩
theorem mm_O.kept {X : mm_X} {U : State} {H H1 : Heap} (h : mm_O X U H) (hz : H.size ≤ H1.size) (hq : ∀ a : Nat, a < H.size → ¬ mm_A X a → H1[a]? = H[a]?) : mm_O X U H1 :=
  ⟨vk_S.kept h.1 hq, va_Z.kept h.2.1 hq, va_X.kept h.2.2.1 (hq _ (Nat.lt_of_lt_of_le h.2.2.2.1 h.2.2.2.2.1) (Nat.not_le.mpr h.2.2.2.1)), h.2.2.2.1, Nat.le_trans h.2.2.2.2.1 hz, h.2.2.2.2.2.imp (fun z => va_Z.kept z hq) (fun z => va_Z.kept z hq)⟩
theorem mm_P_blind {X : mm_X} {ad : Nat → Nat} {as : List Value} {h : mm_Hp} : FrameBlind (mm_P X ad as h) := by
  intro a U g mk hp
  obtain ⟨h1, h2, h3, h4⟩ := hp
  exact ⟨h1, mm_T.moved (s := U) (U := U.calling g mk a) (State.WarmedH.refl U) h2, mm_O.moved (s := U) (U := U.calling g mk a) (Vm.Alike.refl U.vm) h3, h4⟩
/-- the references among the locals and on the stack are old ones -/
def mm_vs (n : Nat) (lv : mm_L) (st : List Value) : Prop := (∀ k : Nat, some (Value.ref k) ∈ lv → k < n) ∧ ∀ k : Nat, Value.ref k ∈ st → k < n
def mm_vl (b : Nat) : mm_L → Bool
  | [] => true
  | some (.ref k) :: lv => Nat.blt k b && mm_vl b lv
  | _ :: lv => mm_vl b lv
def mm_vt (b : Nat) : List Value → Bool
  | [] => true
  | .ref k :: st => Nat.blt k b && mm_vt b st
  | _ :: st => mm_vt b st
def mm_vb (b : Nat) (lv : mm_L) (st : List Value) : Bool := mm_vl b lv && mm_vt b st
theorem mm_vl_ok {b : Nat} : ∀ {lv : mm_L}, mm_vl b lv = true → ∀ k : Nat, some (Value.ref k) ∈ lv → k < b := by
  intro lv
  induction lv with
  | nil => intro _ k hk; exact (List.not_mem_nil hk).elim
  | cons x lv ih =>
    intro h k hk
    rcases List.mem_cons.mp hk with e | e
    · subst e
      simp only [mm_vl, Bool.and_eq_true] at h
      exact Nat.blt_eq.mp h.1
    · refine ih ?_ k e
      cases x with
      | none => exact h
      | some v =>
        cases v with
        | ref j => simp only [mm_vl, Bool.and_eq_true] at h; exact h.2
        | _ => exact h
theorem mm_vt_ok {b : Nat} : ∀ {st : List Value}, mm_vt b st = true → ∀ k : Nat, Value.ref k ∈ st → k < b := by
  intro st
  induction st with
  | nil => intro _ k hk; exact (List.not_mem_nil hk).elim
  | cons x st ih =>
    intro h k hk
    rcases List.mem_cons.mp hk with e | e
    · subst e
      simp only [mm_vt, Bool.and_eq_true] at h
      exact Nat.blt_eq.mp h.1
    · refine ih ?_ k e
      cases x with
      | ref j => simp only [mm_vt, Bool.and_eq_true] at h; exact h.2
      | _ => exact h
theorem mm_vs_b {b n : Nat} {lv : mm_L} {st : List Value} (h : mm_vb b lv st = true) (hn : b ≤ n) : mm_vs n lv st :=
  ⟨fun k hk => Nat.lt_of_lt_of_le (mm_vl_ok (Bool.and_eq_true_iff.mp h).1 k hk) hn, fun k hk => Nat.lt_of_lt_of_le (mm_vt_ok (Bool.and_eq_true_iff.mp h).2 k hk) hn⟩
theorem mm_rv_same {X : mm_X} {ad ad' : Nat → Nat} {n : Nat} (hag : ∀ k, k < n → ad' k = ad k) {v : Value} (hv : ∀ k, v = .ref k → k < n) : mm_rv X ad' v = mm_rv X ad v := by
  cases v <;> first | rfl | exact congrArg Value.ref (hag _ (hv _ rfl))
theorem mm_lh.ext {X : mm_X} {ad ad' : Nat → Nat} {ls : Array Slot} {nL n : Nat} {lv : mm_L} (h : mm_lh X ad ls nL lv) (hag : ∀ k, k < n → ad' k = ad k) (hv : ∀ k : Nat, some (Value.ref k) ∈ lv → k < n) : mm_lh X ad' ls nL lv :=
  ⟨h.1, h.2.1, h.2.2.1, fun i v hi => by rw [mm_rv_same hag (fun k e => hv k (e ▸ List.mem_of_getElem? hi))]; exact h.2.2.2 i v hi⟩
theorem mm_st_ext {X : mm_X} {ad ad' : Nat → Nat} {n : Nat} {st : List Value} (hag : ∀ k, k < n → ad' k = ad k) (hv : ∀ k : Nat, Value.ref k ∈ st → k < n) : st.map (mm_rv X ad') = st.map (mm_rv X ad) :=
  List.map_congr_left (fun v hm => mm_rv_same hag (fun k e => hv k (e ▸ hm)))
section
variable {d : Nat} {M : mm_M} {mc ms : Nat} {Q : Option Value → mm_Hp → Prop} {nc ns pc : Nat} {lv : mm_L} {st : List Value} {h : mm_Hp}
theorem mm_after {Q' : Option Value → mm_Hp → Prop} {mc' ms' : Nat} (hvs : mm_vs h.1.length lv st) (kk : ∀ v h', Q' v h' → mm_W d M mc ms Q (nc + mc') (ns + ms') (pc + 3, lv, v.toList ++ st, h'))
    {p : Program} {l : Launch} {e : Env} {s : State} {m : MethodId} {args : Array Value} {below : List Frame} {meth : Method} {c : Code} {X : mm_X} {ad0 : Nat → Nat} {n0 : Nat} {ad : Nat → Nat} {H : Heap} {locs : List Loc} {ls : Array Slot} {a : Array Value} {st0 : List Value}
    (C : mm_C p s m args meth c M X) (ha : ∀ k, k < n0 → ad k = ad0 k) (hn : n0 ≤ h.1.length) (hS : va_S (mm_A X) s.heap H locs) (hl : mm_lh X ad ls M.2.2.1 lv)
    (hr : va_Run p l e (mm_R d mc ms) s m args below meth c H locs nc ns mc' ms' (F0 m pc ls st0) (st.map (mm_rv X ad)) (mm_Q X ad h.1.length Q' a) (mm_A X)) :
    W p l e (mm_R d mc ms) s m args below meth c H locs nc ns (MQ below (mm_Q X ad0 n0 Q) args s mc ms (mm_A X)) (F0 m pc ls st0) := by
  intro T hT Xs
  obtain ⟨v, st₀, t, T', L, h0, X', hL, e1, e2, ⟨⟨v', h', ad', hv, hq, hRel, hag, hln⟩, hz, hk⟩, stp⟩ := hr T hT Xs
  cases hv
  rw [h0] at hz hk
  have hS' : va_S (mm_A X) s.heap T'.heap (locs ++ L) := ⟨Nat.le_trans hS.1 (by rw [e1]; exact hz), fun q h1 h2 => by rw [e1, hk q (Nat.lt_of_lt_of_le h1 hS.1) h2]; exact hS.2.1 q h1 h2, fun q hq => by
    rcases List.mem_append.mp hq with h | h
    · exact hS.2.2 q h
    · exact hL q h⟩
  have k' := kk v' h' hq p l e s m args below meth c X ad0 n0 ad' T'.heap (locs ++ L) ls C (fun k hk => (hag k (Nat.lt_of_lt_of_le hk hn)).trans (ha k hk)) (Nat.le_trans hn hln) (by rw [e1]; exact hRel) hS' (hl.ext hag hvs.1)
  obtain ⟨t2, a1, b1⟩ := k' T' rfl X'
  refine ⟨t2, stp t2 ?_, b1⟩
  have ef : F0 m (pc + 3) ls ((v'.toList ++ st).map (mm_rv X ad')) = { F0 m pc ls st0 with pc := (F0 m pc ls st0).pc + 3, stack := (v'.map (mm_rv X ad')).toList ++ st.map (mm_rv X ad) } := by
    rw [List.map_append, mm_st_ext hag hvs.2]
    cases v' <;> rfl
  rw [← ef]
  exact a1
/-- what a call asks of the callee N, of n parameters (an instance's own apart) -/
def mm_cw (N : mm_M) (n : Nat) : Prop := Cond.code N.1 N.2.1 N.2.2.1 N.2.2.2 ∈ mm_G ∧ Cond.initialized N.1.cls ∈ mm_G ∧ (N.1.cls ≠ "java/lang/invoke/MethodHandle" ∧ N.1.cls ≠ "java/lang/invoke/VarHandle" ∧ (parseMethodDescriptor N.1.desc).map (fun d => d.parameters.length) = some n) ∧ N.2.2.1 ≤ 22
theorem mm_good {N : mm_M} {n : Nat} (h : mm_cw N n) : GoodIn mm_G (.code N.1 N.2.1 N.2.2.1 N.2.2.2 :: mm_G) := by
  intro w hw
  rcases List.mem_cons.mp hw with e | e
  · rw [e]; exact ⟨h.1, good_of_word (List.mem_filter.mp h.1).2⟩
  · exact ⟨e, good_of_word (List.mem_filter.mp e).2⟩
theorem mm_room {d d' nL mc ms mc' ms' : Nat} (hd : d' + 1 ≤ d) (hn : nL ≤ 22) : (mm_R d' mc' ms').frames + 1 ≤ (mm_R d mc ms).frames ∧ 8 + (nL + 11) + (mm_R d' mc' ms').locals ≤ (mm_R d mc ms).locals := by
  refine ⟨hd, ?_⟩
  show 8 + (nL + 11) + (41 * d' + 32) ≤ 41 * d + 32
  omega
theorem mm_CB {N : mm_M} {n idx d' mc' ms' : Nat} {s : State} {args : Array Value} (hN : mm_cw N n) (hlk : Cond.methodLink M.1.cls idx N.1 ∈ mm_G) (hdd : d' + 1 ≤ d) (hts : ∀ w ∈ mm_G, w.before args s = true) : CallB (mm_R d mc ms) s args M.1.cls idx N.1 N.2.1 N.2.2.1 N.2.2.2 (.code N.1 N.2.1 N.2.2.1 N.2.2.2 :: mm_G) (mm_R d' mc' ms') mc' ms' n :=
  callB_of n hts (mm_good hN) rfl rfl rfl (hts _ hN.2.1) (hts _ hlk) hN.2.2.1 (mm_room hdd hN.2.2.2)
theorem mm_pre {X : mm_X} {ad : Nat → Nat} {s : State} {H : Heap} {locs : List Loc} {as : List Value} (hT : mm_T X s) (hO : mm_O X s s.heap) (hR : mm_Rel X ad h H) (hS : va_S (mm_A X) s.heap H locs) : ∀ U : State, U.heap = H → s.WarmedH U.vm → mm_P X ad as h (as.map (mm_rv X ad)).toArray U :=
  fun U hU hW => ⟨rfl, mm_T.moved hW hT, by rw [hU]; exact mm_O.moved hW.alike (mm_O.kept hO hS.1 hS.2.1), by rw [hU]; exact hR⟩
theorem mm_cats {X : mm_X} {ad : Nat → Nat} {st : List Value} (h : (st.map Value.category).sum ≤ 8) : ((st.map (mm_rv X ad)).map fun v => v.category).sum ≤ 8 := by
  rw [List.map_map, show (fun v : Value => v.category) ∘ mm_rv X ad = Value.category from funext (fun v => mm_rv_cat v)]
  exact h
/-- a static method -/
theorem mm_cS {N : mm_M} {as : List Value} {idx d' mc' ms' : Nat} {Q' : Option Value → mm_Hp → Prop} (hN : mm_cw N as.length) (hlk : Cond.methodLink M.1.cls idx N.1 ∈ mm_G) (hst : Cond.static N.1 ∈ mm_G) (hd : decode M.2.1 pc = .ok (.invokestatic idx, 3)) (hct : mm_Ct d' N as h mc' ms' Q') (hdd : d' + 1 ≤ d) (hm : nc + mc' ≤ mc ∧ ns + ms' ≤ ms) (hcat : (st.map Value.category).sum ≤ 8) (hvs : mm_vs h.1.length lv st)
    (kk : ∀ v h', Q' v h' → mm_W d M mc ms Q (nc + mc') (ns + ms') (pc + 3, lv, v.toList ++ st, h')) : mm_W d M mc ms Q nc ns (pc, lv, as.reverse ++ st, h) := by
  intro p l e s m args below meth c X ad0 n0 ad H locs ls C ha hn hR hS hl
  have C' := C
  obtain ⟨hx, hb, hml, hr, hlo, hown, hts, hnm, hT, hO⟩ := C'
  refine mm_after hvs kk C ha hn hS hl (a := (as.map (mm_rv X ad)).toArray) ?_
  refine va_runS (As := as.map (mm_rv X ad)) (n := as.length) ⟨hx, hb, hml, hown, hts⟩ (hct l X ad) ⟨mm_CB hN hlk hdd hts, hts _ hst⟩ ⟨mm_P_blind, mm_pre hT hO hR hS⟩ rfl (by rw [List.length_map]) hl.2.1 ?_ (lv_room (m := m) (pc := pc) (ls := ls) (rest := []) (mm_cats hcat)) hd hm
  show ((as.reverse ++ st).map (mm_rv X ad)) = _
  rw [List.map_append, List.map_reverse]
/-- a method of the receiver's own class -/
theorem mm_cV {N : mm_M} {as : List Value} {q ci idx d' mc' ms' : Nat} {fs : List Nat} {r : vw_C} {Q' : Option Value → mm_Hp → Prop} (hN : mm_cw N as.length) (hlk : Cond.methodLink M.1.cls idx N.1 ∈ mm_G) (hin : Cond.instanceMethod N.1 ∈ mm_G) (hsl : Cond.selects r.1 N.1 N.1 ∈ mm_G) (hrc : vwCl[ci]? = some r) (hq : h.1[q]? = some (.inr (ci, fs))) (hd : decode M.2.1 pc = .ok (.invokevirtual idx, 3)) (hct : mm_Ct d' N (.ref q :: as) h mc' ms' Q') (hdd : d' + 1 ≤ d) (hm : nc + mc' ≤ mc ∧ ns + ms' ≤ ms) (hcat : (st.map Value.category).sum ≤ 8) (hvs : mm_vs h.1.length lv st)
    (kk : ∀ v h', Q' v h' → mm_W d M mc ms Q (nc + mc') (ns + ms') (pc + 3, lv, v.toList ++ st, h')) : mm_W d M mc ms Q nc ns (pc, lv, as.reverse ++ .ref q :: st, h) := by
  intro p l e s m args below meth c X ad0 n0 ad H locs ls C ha hn hR hS hl
  have C' := C
  obtain ⟨hx, hb, hml, hr, hlo, hown, hts, hnm, hT, hO⟩ := C'
  refine mm_after hvs kk C ha hn hS hl (a := ((.ref q :: as).map (mm_rv X ad)).toArray) ?_
  refine va_runV (As := as.map (mm_rv X ad)) (C := r.1) (n := as.length) (b := ad q) ⟨hx, hb, hml, hown, hts⟩ (hct l X ad) ⟨mm_CB hN hlk hdd hts, hts _ hin, hts _ hsl⟩ ⟨mm_P_blind, va_recv hT.1 hR.1 hrc (mm_lay_at hq), mm_pre (as := .ref q :: as) hT hO hR hS⟩ rfl (by rw [List.length_map]) hl.2.1 ?_ (lv_room (m := m) (pc := pc) (ls := ls) (rest := []) (mm_cats hcat)) hd hm
  show ((as.reverse ++ .ref q :: st).map (mm_rv X ad)) = _
  rw [List.map_append, List.map_reverse]
  rfl
/-- a method that the receiver's class overrides or inherits: x is what the call names -/
theorem mm_cU {N : mm_M} {x : MethodName} {as : List Value} {q ci idx d' mc' ms' : Nat} {fs : List Nat} {r : vw_C} {Q' : Option Value → mm_Hp → Prop} (hN : mm_cw N as.length) (hlk : Cond.methodLink M.1.cls idx x ∈ mm_G) (hsm : Cond.sameMethod x.cls x.cls x.name x.desc ∈ mm_G) (hix : Cond.instanceMethod x ∈ mm_G) {b0 : ByteArray} {m0 : Nat} {r0 : Option FieldType} (h0 : Cond.code x b0 m0 r0 ∈ mm_G) (hxd : x.cls ≠ "java/lang/invoke/MethodHandle" ∧ x.cls ≠ "java/lang/invoke/VarHandle" ∧ x.desc = N.1.desc) (hin : Cond.instanceMethod N.1 ∈ mm_G) (hsl : Cond.selects r.1 x N.1 ∈ mm_G) (hrc : vwCl[ci]? = some r) (hq : h.1[q]? = some (.inr (ci, fs))) (hd : decode M.2.1 pc = .ok (.invokevirtual idx, 3)) (hct : mm_Ct d' N (.ref q :: as) h mc' ms' Q') (hdd : d' + 1 ≤ d) (hm : nc + mc' ≤ mc ∧ ns + ms' ≤ ms) (hcat : (st.map Value.category).sum ≤ 8) (hvs : mm_vs h.1.length lv st)
    (kk : ∀ v h', Q' v h' → mm_W d M mc ms Q (nc + mc') (ns + ms') (pc + 3, lv, v.toList ++ st, h')) : mm_W d M mc ms Q nc ns (pc, lv, as.reverse ++ .ref q :: st, h) := by
  intro p l e s m args below meth c X ad0 n0 ad H locs ls C ha hn hR hS hl
  have C' := C
  obtain ⟨hx, hb, hml, hr, hlo, hown, hts, hnm, hT, hO⟩ := C'
  refine mm_after hvs kk C ha hn hS hl (a := ((.ref q :: as).map (mm_rv X ad)).toArray) ?_
  have hG : GoodIn mm_G (va_wsO M.1.cls idx r.1 x.cls x N.1 (.code N.1 N.2.1 N.2.2.1 N.2.2.2 :: mm_G)) := by
    intro w hw
    unfold va_wsO at hw
    have hw' : w ∈ mm_G := by
      rcases List.mem_append.mp hw with e | e
      · simp only [List.mem_cons, List.not_mem_nil, or_false] at e
        rcases e with rfl | rfl | rfl | rfl | rfl | rfl
        · exact hlk
        · exact hsm
        · exact hix
        · exact hsl
        · exact hin
        · exact hN.2.1
      · exact (mm_good hN w e).1
    exact ⟨hw', good_of_word (List.mem_filter.mp hw').2⟩
  refine va_runU (As := as.map (mm_rv X ad)) (C := r.1) (owner := x.cls) (n := as.length) (b := ad q) ⟨hx, hb, hml, hown, hts⟩ (hct l X ad) (va_cwO as.length hts hG rfl rfl rfl (b0 := b0) (m0 := m0) (r0 := r0) h0 ⟨hxd.1, hxd.2.1, by rw [hxd.2.2]; exact hN.2.2.1.2.2⟩ (mm_room hdd hN.2.2.2)) ⟨mm_P_blind, va_recv hT.1 hR.1 hrc (mm_lay_at hq), mm_pre (as := .ref q :: as) hT hO hR hS⟩ rfl (by rw [List.length_map]) hl.2.1 ?_ (lv_room (m := m) (pc := pc) (ls := ls) (rest := []) (mm_cats hcat)) hd hm
  show ((as.reverse ++ .ref q :: st).map (mm_rv X ad)) = _
  rw [List.map_append, List.map_reverse]
  rfl
/-- super's method -/
theorem mm_cX {N : mm_M} {as : List Value} {q ci idx d' mc' ms' : Nat} {fs : List Nat} {r : vw_C} {Q' : Option Value → mm_Hp → Prop} (hN : mm_cw N as.length) (hlk : Cond.methodLink M.1.cls idx N.1 ∈ mm_G) (hsm : Cond.sameMethod N.1.cls N.1.cls N.1.name N.1.desc ∈ mm_G) (hsu : Cond.superclass M.1.cls N.1.cls ∈ mm_G) (hin : Cond.instanceMethod N.1 ∈ mm_G) (hni : N.1.name ≠ "<init>") (hrc : vwCl[ci]? = some r) (hq : h.1[q]? = some (.inr (ci, fs))) (hd : decode M.2.1 pc = .ok (.invokespecial idx, 3)) (hct : mm_Ct d' N (.ref q :: as) h mc' ms' Q') (hdd : d' + 1 ≤ d) (hm : nc + mc' ≤ mc ∧ ns + ms' ≤ ms) (hcat : (st.map Value.category).sum ≤ 8) (hvs : mm_vs h.1.length lv st)
    (kk : ∀ v h', Q' v h' → mm_W d M mc ms Q (nc + mc') (ns + ms') (pc + 3, lv, v.toList ++ st, h')) : mm_W d M mc ms Q nc ns (pc, lv, as.reverse ++ .ref q :: st, h) := by
  intro p l e s m args below meth c X ad0 n0 ad H locs ls C ha hn hR hS hl
  have C' := C
  obtain ⟨hx, hb, hml, hr, hlo, hown, hts, hnm, hT, hO⟩ := C'
  refine mm_after hvs kk C ha hn hS hl (a := ((.ref q :: as).map (mm_rv X ad)).toArray) ?_
  have hG : GoodIn mm_G (va_wsSU M.1.cls idx N.1 (.code N.1 N.2.1 N.2.2.1 N.2.2.2 :: mm_G)) := by
    intro w hw
    unfold va_wsSU at hw
    have hw' : w ∈ mm_G := by
      rcases List.mem_append.mp hw with e | e
      · simp only [List.mem_cons, List.not_mem_nil, or_false] at e
        rcases e with rfl | rfl | rfl | rfl | rfl
        · exact hlk
        · exact hsm
        · exact hsu
        · exact hin
        · exact hN.2.1
      · exact (mm_good hN w e).1
    exact ⟨hw', good_of_word (List.mem_filter.mp hw').2⟩
  refine va_runSU (As := as.map (mm_rv X ad)) (C := r.1) (cC := X.1.1 ci) (n := as.length) (b := ad q) (hT.1.1 ci r hrc).2 ⟨hx, hb, hml, hown, hts⟩ (hct l X ad) (va_cwSU as.length hts hG rfl rfl rfl ⟨hni, hN.2.2.1.2.2⟩ (mm_room hdd hN.2.2.2)) ⟨mm_P_blind, va_recv hT.1 hR.1 hrc (mm_lay_at hq), mm_pre (as := .ref q :: as) hT hO hR hS⟩ rfl (by rw [List.length_map]) hl.2.1 ?_ (lv_room (m := m) (pc := pc) (ls := ls) (rest := []) (mm_cats hcat)) hd hm
  show ((as.reverse ++ .ref q :: st).map (mm_rv X ad)) = _
  rw [List.map_append, List.map_reverse]
  rfl
/-- a constructor -/
theorem mm_cI {N : mm_M} {as : List Value} {q idx d' mc' ms' : Nat} {Q' : Option Value → mm_Hp → Prop} (hN : mm_cw N as.length) (hlk : Cond.methodLink M.1.cls idx N.1 ∈ mm_G) (hin : Cond.instanceMethod N.1 ∈ mm_G) (hni : N.1.name = "<init>" ∧ N.2.2.2 = none) (hd : decode M.2.1 pc = .ok (.invokespecial idx, 3)) (hct : mm_Ct d' N (.ref q :: as) h mc' ms' Q') (hdd : d' + 1 ≤ d) (hm : nc + mc' ≤ mc ∧ ns + ms' ≤ ms) (hcat : (st.map Value.category).sum ≤ 8) (hvs : mm_vs h.1.length lv st)
    (kk : ∀ v h', Q' v h' → mm_W d M mc ms Q (nc + mc') (ns + ms') (pc + 3, lv, v.toList ++ st, h')) : mm_W d M mc ms Q nc ns (pc, lv, as.reverse ++ .ref q :: st, h) := by
  intro p l e s m args below meth c X ad0 n0 ad H locs ls C ha hn hR hS hl
  have C' := C
  obtain ⟨hx, hb, hml, hr, hlo, hown, hts, hnm, hT, hO⟩ := C'
  refine mm_after hvs kk C ha hn hS hl (a := ((.ref q :: as).map (mm_rv X ad)).toArray) ?_
  have cb := mm_CB (M := M) (d := d) (mc := mc) (ms := ms) (mc' := mc') (ms' := ms') (d' := d') (s := s) (args := args) hN hlk hdd hts
  rw [hni.2] at cb
  refine va_runI (As := as.map (mm_rv X ad)) (n := as.length) (b := ad q) ⟨hx, hb, hml, hown, hts⟩ (by have := hct l X ad; rw [hni.2] at this; exact this) ⟨cb, hni.1, hts _ hin⟩ ⟨mm_P_blind, mm_pre (as := .ref q :: as) hT hO hR hS⟩ rfl (by rw [List.length_map]) hl.2.1 ?_ (lv_room (m := m) (pc := pc) (ls := ls) (rest := []) (mm_cats hcat)) hd hm
  show ((as.reverse ++ .ref q :: st).map (mm_rv X ad)) = _
  rw [List.map_append, List.map_reverse]
  rfl
/-- a nest mate's private constructor -/
theorem mm_cN {N : mm_M} {as : List Value} {q idx d' mc' ms' : Nat} {host : String} {Q' : Option Value → mm_Hp → Prop} (hN : mm_cw N as.length) (hlk : Cond.methodLinkNest M.1.cls idx N.1 host ∈ mm_N) (hin : Cond.instanceMethod N.1 ∈ mm_G) (hni : N.1.name = "<init>" ∧ N.2.2.2 = none) (hd : decode M.2.1 pc = .ok (.invokespecial idx, 3)) (hct : mm_Ct d' N (.ref q :: as) h mc' ms' Q') (hdd : d' + 1 ≤ d) (hm : nc + mc' ≤ mc ∧ ns + ms' ≤ ms) (hcat : (st.map Value.category).sum ≤ 8) (hvs : mm_vs h.1.length lv st)
    (kk : ∀ v h', Q' v h' → mm_W d M mc ms Q (nc + mc') (ns + ms') (pc + 3, lv, v.toList ++ st, h')) : mm_W d M mc ms Q nc ns (pc, lv, as.reverse ++ .ref q :: st, h) := by
  intro p l e s m args below meth c X ad0 n0 ad H locs ls C ha hn hR hS hl
  have C' := C
  obtain ⟨hx, hb, hml, hr, hlo, hown, hts, hnm, hT, hO⟩ := C'
  refine mm_after hvs kk C ha hn hS hl (a := ((.ref q :: as).map (mm_rv X ad)).toArray) ?_
  have cb : va_CN (mm_R d mc ms) s args M.1.cls idx N.1 host N.2.1 N.2.2.1 N.2.2.2 (.code N.1 N.2.1 N.2.2.1 N.2.2.2 :: mm_G) (mm_R d' mc' ms') mc' ms' as.length := va_cnB as.length hts (mm_good hN) rfl rfl rfl (hT.2.1 _ hlk) (hts _ hN.2.1) hN.2.2.1 (mm_room hdd hN.2.2.2)
  rw [hni.2] at cb
  refine va_runIN (As := as.map (mm_rv X ad)) (host := host) (n := as.length) (b := ad q) ⟨hx, hb, hml, hown, hts⟩ (by have := hct l X ad; rw [hni.2] at this; exact this) ⟨cb, hni.1, hts _ hin⟩ ⟨mm_P_blind, mm_pre (as := .ref q :: as) hT hO hR hS⟩ rfl (by rw [List.length_map]) hl.2.1 ?_ (lv_room (m := m) (pc := pc) (ls := ls) (rest := []) (mm_cats hcat)) hd hm
  show ((as.reverse ++ .ref q :: st).map (mm_rv X ad)) = _
  rw [List.map_append, List.map_reverse]
  rfl
/-- Object's constructor -/
theorem mm_cO {q idx : Nat} (hlk : Cond.methodLink M.1.cls idx Lib.objectInit ∈ mm_G) (hin : Cond.instanceMethod Lib.objectInit ∈ mm_G) (hcd : Cond.code Lib.objectInit ⟨#[0xb1]⟩ 1 none ∈ mm_G) (hd : decode M.2.1 pc = .ok (.invokespecial idx, 3)) (hdd : 1 ≤ d) (hcat : (st.map Value.category).sum ≤ 8) (kk : mm_W d M mc ms Q nc ns (pc + 3, lv, st, h)) : mm_W d M mc ms Q nc ns (pc, lv, .ref q :: st, h) := by
  intro p l e s m args below meth c X ad0 n0 ad H locs ls C ha hn hR hS hl
  have k' := kk p l e s m args below meth c X ad0 n0 ad H locs ls C ha hn hR hS hl
  obtain ⟨hx, hb, hml, hr, hlo, hown, hts, hnm, hT, hO⟩ := C
  have hroom := lv_room (m := m) (pc := pc) (ls := ls) (rest := []) (mm_cats (X := X) (ad := ad) hcat)
  refine W.objInit (a := ad q) (rest := st.map (mm_rv X ad)) hx hb hown (hts _ hlk) (hts _ hin) (hts _ hcd) rfl (by rw [hml]; exact hl.2.1) rfl hd hdd ?_ k'
  have h1 : 2 * (F0 m pc ls []).monitorRoom + ((st.map (mm_rv X ad)).map fun v => v.category).sum ≤ 8 := hroom
  show 2 * (F0 m pc ls []).monitorRoom + ((st.map (mm_rv X ad)).map fun v => v.category).sum + 12 ≤ 41 * d + 32
  omega
end
