/-! ===== super.m(..) where the superclass inherits m from the class above it ===== -/
section
variable {p : Program} {l : Launch} {e : Env} {R : Room} {s : State} {m : MethodId} {args : Array Value} {below : List Frame} {meth : Method} {c : Code}
theorem mm_callSI {T : State} {locs : List Loc} {cells slots : Nat} (X : Stand p l e R s m args below meth c T locs cells slots) (hexec : p.tables.exec = Jvm.exec) {own sc : String} {index : Nat} {y : MethodName} {bytes : ByteArray} {maxL : Nat} {ret : Option FieldType}
    (hown : s.vm.findClass own = some m.cls) (hlink : (Cond.methodLink own index ⟨sc, y.name, y.desc⟩).before args s = true) (hsame : (Cond.sameMethod sc y.cls y.name y.desc).before args s = true) (hsup : (Cond.superclass own sc).before args s = true) (hsup2 : (Cond.superclass sc y.cls).before args s = true)
    (hinst : (Cond.instanceMethod y).before args s = true) (hcode : (Cond.code y bytes maxL ret).before args s = true) (hno : y.name ≠ "<init>")
    {W : Nat} {Pre : Pt → Array Value → Prop} {Post : Pt → Array Value → Option Value → Pt → Prop} (hK : Back l R p e below s args y 3 W Pre Post)
    {b : Addr} {cellB : Cell} {kB : Class} (hcell : T.heap[b]? = some cellB) (hobj : cellB.vm.isStatics = false) (hkB : s.vm.classes[cellB.cls]? = some kB)
    {g : JFrame} (hg : g.method = m) (hsize : g.locals.size = c.maxLocals) {argsL rest : List Value} (hlen : ∀ sig, parseMethodDescriptor y.desc = some sig → argsL.length = sig.parameters.length)
    (hstack : g.stack = argsL.reverse ++ .ref b :: rest) (hW : 2 * g.monitorRoom + (rest.map fun v => v.category).sum ≤ W) (hdg : decode c.code g.pc = .ok (.invokespecial index, 3))
    (hpre : ∀ vm₁, s.WarmedH vm₁ → Pre ⟨T.setVm vm₁, locs, cells, slots⟩ (Value.ref b :: argsL).toArray) :
    ∃ (v : Option Value) (vm₁ : Vm) (B : Pt), s.WarmedH vm₁ ∧ Stand p l e R s m args below meth c B.U B.locs B.cells B.slots ∧ Post ⟨T.setVm vm₁, locs, cells, slots⟩ (Value.ref b :: argsL).toArray v B ∧
      ∀ target, Steps p.tables e below (B.U.setTop { g with pc := g.pc + 3, stack := v.toList ++ rest }) target → Steps p.tables e below (T.setTop g) target := by
  obtain ⟨mk, methM, hnamed, hmethM, hstM, habM⟩ := Cond.instanceMethod_spec hinst
  obtain ⟨methM', cM, hmethM', -, -, -, -, -, -, hsigM⟩ := Cond.code_spec hnamed hcode
  cases hmethM.symm.trans hmethM'
  obtain ⟨ps, dk, kp, hps, hdk, hkp, hsuper, -, -, hnid⟩ := Cond.superclass_spec hown hsup
  obtain ⟨p2, k2, kp2, hp2, hk2, hkp2, hsuper2, -, -, -⟩ := Cond.superclass_spec hps hsup2
  have hn : s.methodNamed? ⟨y.cls, y.name, y.desc⟩ = some mk := hnamed
  have hpm : p2 = mk.cls := Option.some.inj (hp2.symm.trans (findClass_of_methodNamed hnamed))
  have hsub : s.vm.isSubclass ps mk.cls = true := by
    have hlt : ps < s.vm.classes.size := (Array.getElem?_eq_some_iff.mp hk2).1
    unfold Vm.isSubclass
    obtain ⟨n, hn⟩ : ∃ n, s.vm.classes.size = n + 1 := Nat.exists_eq_succ_of_ne_zero (Nat.ne_of_gt (Nat.lt_of_le_of_lt (Nat.zero_le _) hlt))
    rw [hn]
    simp only [Vm.isSubclassAux, hk2, hsuper2, hpm]
    simp
  obtain ⟨vm₁, X₁, hstep₁⟩ := X.invokespecialUp hexec (x := ⟨sc, y.name, y.desc⟩) hown hlink hsame hn hmethM hstM habM hno hdk hnid hps hsuper hsub (a := b) (cell := cellB) hcell
    (fun z h => by rw [h] at hobj; cases hobj) hkB (g := g) hg (argsL := argsL) (rest := rest) (hlen _ hsigM) hstack hdg
  obtain ⟨v, B, X', hpost, hsteps⟩ := hK m meth c ⟨T.setVm vm₁, locs, cells, slots⟩ { g with stack := rest } (.invokespecial index) mk (Value.ref b :: argsL).toArray X₁ hg hsize hdg hW (X₁.named hnamed) (hpre vm₁ X₁.warmed)
  exact ⟨v, vm₁, B, X₁.warmed, X', hpost, fun target h => hstep₁ _ (by rw [doInvoke_state]; exact hsteps.trans h)⟩
end
section
variable {d : Nat} {M : mm_M} {mc ms : Nat} {Q : Option Value → mm_Hp → Prop} {nc ns pc : Nat} {lv : mm_L} {st : List Value} {h : mm_Hp}
theorem mm_cY {N : mm_M} {sc : String} {as : List Value} {q ci idx d' mc' ms' : Nat} {fs : List Nat} {r : vw_C} {Q' : Option Value → mm_Hp → Prop} (hN : mm_cw N as.length) (hlk : Cond.methodLink M.1.cls idx ⟨sc, N.1.name, N.1.desc⟩ ∈ mm_G) (hsm : Cond.sameMethod sc N.1.cls N.1.name N.1.desc ∈ mm_G) (hsu : Cond.superclass M.1.cls sc ∈ mm_G) (hsu2 : Cond.superclass sc N.1.cls ∈ mm_G) (hin : Cond.instanceMethod N.1 ∈ mm_G) (hni : N.1.name ≠ "<init>") (hrc : vwCl[ci]? = some r) (hq : h.1[q]? = some (.inr (ci, fs))) (hd : decode M.2.1 pc = .ok (.invokespecial idx, 3)) (hct : mm_Ct d' N (.ref q :: as) h mc' ms' Q') (hdd : d' + 1 ≤ d) (hm : nc + mc' ≤ mc ∧ ns + ms' ≤ ms) (hcat : (st.map Value.category).sum ≤ 8) (hvs : mm_vs h.1.length lv st)
    (kk : ∀ v h', Q' v h' → mm_W d M mc ms Q (nc + mc') (ns + ms') (pc + 3, lv, v.toList ++ st, h')) : mm_W d M mc ms Q nc ns (pc, lv, as.reverse ++ .ref q :: st, h) := by
  intro p l e s m args below meth c X ad0 n0 ad H locs ls C ha hn hR hS hl
  have C' := C
  obtain ⟨hx, hb, hml, hr, hlo, hown, hts, hnm, hT, hO⟩ := C'
  refine mm_after hvs kk C ha hn hS hl (a := ((.ref q :: as).map (mm_rv X ad)).toArray) ?_
  have hroom := mm_room (mc := mc) (ms := ms) (mc' := mc') (ms' := ms') hdd hN.2.2.2
  have hK : Back l (mm_R d mc ms) p e below s args N.1 3 8 (PreOf (mm_R d mc ms) mc' ms' (mm_P X ad (.ref q :: as) h)) (PostOf (mm_Q X ad h.1.length Q') mc' ms' (mm_A X)) := back_of (bytes := N.2.1) (maxL := N.2.2.1) (ret := N.2.2.2) (hct l X ad) mm_P_blind rfl rfl hroom.1 hroom.2 (pay_in hts (mm_good hN)) List.mem_cons_self (fun a' U hW => word_at hW (Or.inl (by first | rfl | simp [Cond.onTables, Cond.keeps, Cond.steady])) (hts _ hN.2.1))
  obtain ⟨cellB, hcB, hoB, hclB⟩ := va_recv hT.1 hR.1 hrc (mm_lay_at (X := X) (ad := ad) hq)
  obtain ⟨hfc, kB, hkB, -⟩ := (hT.1.1 ci r hrc).2
  have ecl : X.1.1 ci = cellB.cls := Option.some.inj (hfc.symm.trans hclB)
  rw [ecl] at hkB
  intro T hTh Xs
  have hlen : ∀ sig, parseMethodDescriptor N.1.desc = some sig → (as.map (mm_rv X ad)).length = sig.parameters.length := by
    intro sig hsig
    have h2 := hN.2.2.1.2.2
    rw [hsig] at h2
    rw [List.length_map]
    exact (Option.some.inj h2).symm
  have hstk : (F0 m pc ls ((as.reverse ++ .ref q :: st).map (mm_rv X ad))).stack = (as.map (mm_rv X ad)).reverse ++ .ref (ad q) :: st.map (mm_rv X ad) := by
    show ((as.reverse ++ .ref q :: st).map (mm_rv X ad)) = _
    rw [List.map_append, List.map_reverse]
    rfl
  have hlr := lv_room (m := m) (pc := pc) (ls := ls) (rest := []) (mm_cats (X := X) (ad := ad) hcat)
  obtain ⟨v, vm₁, ⟨U', l2, c2, s2⟩, hW₁, X', ⟨g', mk, t, Lo, e1, e2, hqq, h1, hL, h2, h3⟩, stp⟩ := mm_callSI Xs hx (bytes := N.2.1) (maxL := N.2.2.1) (ret := N.2.2.2) hown (hts _ hlk) (hts _ hsm) (hts _ hsu) (hts _ hsu2) (hts _ hin) (hts _ hN.1) hni hK (by rw [hTh]; exact hcB) hoB hkB (g := F0 m pc ls ((as.reverse ++ .ref q :: st).map (mm_rv X ad))) rfl (hl.2.1.trans hml.symm) (argsL := as.map (mm_rv X ad)) (rest := st.map (mm_rv X ad)) hlen hstk hlr (by rw [hb]; exact hd)
    (fun vm₁ hW₁ => ⟨hm.1, hm.2, mm_pre (as := .ref q :: as) hT hO hR hS (T.setVm vm₁) hTh hW₁⟩)
  dsimp only [Pt.U, Pt.locs, Pt.cells, Pt.slots] at X' e1 e2 h1 h2 h3 stp
  subst h1; subst h2; subst h3
  exact ⟨v, (T.setVm vm₁).calling g' mk (Value.ref (ad q) :: as.map (mm_rv X ad)).toArray, t, U', Lo, hTh, X', hL, e1, e2, hqq, stp⟩
end
