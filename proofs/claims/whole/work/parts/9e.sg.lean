/-! THE CLAIM OUT OF ONE WALK OF THE LAW'S BODY. Your part is whole_start (and what it stands on); all else here is the same for every law, but numbers. -/
def R_law : String := "SchoolOnRaftLaw"
def lw_P (b : Addr) (xs : List Int32) (args : Array Value) (s : State) : Prop := args = #[.ref b] ∧ s.IntsAt b xs ∧ xs.length ≤ 3072 ∧ (Jvm.Cond.and given_1 narrow_1).before args s = true
def lw_Q (_ : Array Value) (s : State) (o : Outcome) (t : State) : Prop := o = .returned (some (.int 1)) ∧ Framed s o t [] 600000 7302250
def lw_Z (below : List Frame) (a : Array Value) (s : State) : State → Prop := fun t => ∃ o, t.status = .running ∧ Ended t below o ∧ lw_Q a s o t
/-- what holds at the law's entry: the machine, the code, the tables' words (any of lw_tbl by 'hts w (by decide +kernel)'), the script of L ints xs at the cell b, what the Statement gives of the start (any of its parts by flat_of_before) -/
def lw_At (p : Program) (s : State) (m : MethodId) (meth : Method) (c : Code) (b L : Nat) (xs : Nat → Int32) : Prop :=
  p.tables.exec = Jvm.exec ∧ c.code = code ∧ meth.sig.returnType = ret ∧ c.maxLocals = 4 ∧ s.vm.findClass R_law = some m.cls ∧ (∀ w ∈ lw_tbl, w.before #[Value.ref b] s = true) ∧ va_X b L xs s s.heap ∧ b < s.heap.size ∧ meth.locks = false ∧ (Jvm.Cond.and given_1 narrow_1).before #[Value.ref b] s = true
theorem lw_ib : ∀ (k : Nat) (q : vw_C), vwCl[k]? = some q → Cond.instantiable q.1 q.2.2 ∈ mm_G
  | 0, _, hq => by cases hq; exact ib_Bo
  | 1, _, hq => by cases hq; exact ib_Hk
  | 2, _, hq => by cases hq; exact ib_Kd
  | 3, _, hq => by cases hq; exact ib_Li
  | 4, _, hq => by cases hq; exact ib_Lo
  | 5, _, hq => by cases hq; exact ib_Pk
  | 6, _, hq => by cases hq; exact ib_Re
  | 7, _, hq => by cases hq; exact ib_Se
  | 8, _, hq => by cases hq; exact ib_So
  | 9, _, hq => by cases hq; exact ib_Sp
  | 10, _, hq => by cases hq; exact ib_Te
  | 11, _, hq => by cases hq; exact ib_Sc
  | 12, _, hq => by cases hq; exact ib_Mo
  | n + 13, _, hq => by cases hq
/-- the given start, in parts -/
def lw_F : List Cond := flatC (Jvm.Cond.and given_1 narrow_1)
def lw_tm (i : Nat) : Term := Term.string "SchoolOnRaft$Reader" (mm_str.getD i (0, "")).1
theorem lw_nc : ∀ q ∈ mm_nc, Cond.not (.castable q.1 q.2) ∈ lw_F := by decide +kernel
theorem lw_ex : ∀ i, i < 12 → Cond.exactly (lw_tm i) "java/lang/String" ∈ lw_F := by decide +kernel
theorem lw_co : ∀ i, i < 12 → Cond.eq (.field (lw_tm i) "java/lang/String" "coder" "B") (.int 0) ∈ lw_F := by decide +kernel
theorem lw_ar : ∀ i, i < 12 → Cond.arrayOf (.field (lw_tm i) "java/lang/String" "value" "[B") .byte ∈ lw_F := by decide +kernel
theorem lw_le : ∀ i, i < 12 → Cond.eq (.length (.field (lw_tm i) "java/lang/String" "value" "[B")) (.int (Int32.ofNat (mm_sl.getD i 0))) ∈ lw_F := by decide +kernel
theorem lw_el : ∀ i, i < 12 → ∀ j, j < mm_sl.getD i 0 → Cond.eq (.elem (.field (lw_tm i) "java/lang/String" "value" "[B") (.int (Int32.ofNat j))) (.int ((mm_sb.getD i []).getD j 0)) ∈ lw_F := by decide +kernel
def lw_nl : List (Nat × Nat × Nat) := [(0, 1, 139), (0, 2, 150), (0, 3, 161), (0, 4, 171), (0, 5, 184), (0, 6, 195), (0, 7, 208), (0, 8, 222), (0, 9, 239), (0, 10, 257), (0, 11, 275), (1, 2, 151), (1, 3, 162), (1, 4, 172), (1, 5, 185), (1, 6, 196), (1, 7, 209), (1, 8, 223), (1, 9, 240), (1, 10, 258), (1, 11, 276), (2, 3, 163), (2, 4, 173), (2, 5, 186), (2, 6, 197), (2, 7, 210), (2, 8, 224), (2, 9, 241), (2, 10, 259), (2, 11, 277), (3, 4, 174), (3, 5, 187), (3, 6, 198), (3, 7, 211), (3, 8, 225), (3, 9, 242), (3, 10, 260), (3, 11, 278), (4, 5, 188), (4, 6, 199), (4, 7, 212), (4, 8, 226), (4, 9, 243), (4, 10, 261), (4, 11, 279), (5, 6, 200), (5, 7, 213), (5, 8, 227), (5, 9, 244), (5, 10, 262), (5, 11, 280), (6, 7, 214), (6, 8, 228), (6, 9, 245), (6, 10, 263), (6, 11, 281), (7, 8, 229), (7, 9, 246), (7, 10, 264), (7, 11, 282), (8, 9, 247), (8, 10, 265), (8, 11, 283), (9, 10, 266), (9, 11, 284), (10, 11, 285)]
theorem lw_n1 : lw_nl.all (fun q => decide (lw_F[q.2.2]? = some (Cond.not (Cond.eq (lw_tm q.1) (lw_tm q.2.1))))) = true := by decide +kernel
theorem lw_n2 : ∀ i, i < 12 → ∀ j, j < 12 → i ≠ j → (lw_nl.any (fun q => q.1 == i && q.2.1 == j) || lw_nl.any (fun q => q.1 == j && q.2.1 == i)) = true := by decide +kernel
theorem lw_n3 {i j : Nat} (h : lw_nl.any (fun q => q.1 == i && q.2.1 == j) = true) : Cond.not (Cond.eq (lw_tm i) (lw_tm j)) ∈ lw_F := by
  obtain ⟨q, hq, h2⟩ := List.any_eq_true.mp h
  have h3 := List.all_eq_true.mp lw_n1 q hq
  have h4 : lw_F[q.2.2]? = some (Cond.not (Cond.eq (lw_tm q.1) (lw_tm q.2.1))) := of_decide_eq_true h3
  have h5 : q.1 = i ∧ q.2.1 = j := by simpa using h2
  rw [h5.1, h5.2] at h4
  exact List.mem_of_getElem? h4
theorem lw_ne : ∀ i, i < 12 → ∀ j, j < 12 → i ≠ j → Cond.not (Cond.eq (lw_tm i) (lw_tm j)) ∈ lw_F ∨ Cond.not (Cond.eq (lw_tm j) (lw_tm i)) ∈ lw_F := fun i hi j hj h => by
  rcases Bool.or_eq_true_iff.mp (lw_n2 i hi j hj h) with h | h
  · exact Or.inl (lw_n3 h)
  · exact Or.inr (lw_n3 h)
theorem lw_cs : Cond.eq (.static "java/lang/String" "COMPACT_STRINGS" "Z") (.int 1) ∈ lw_F := by decide +kernel
theorem lw_fo : Cond.isRef (.static "jdk/internal/util/Preconditions" "SIOOBE_FORMATTER" "Ljava/util/function/BiFunction;") ∈ lw_F := by decide +kernel
theorem lw_st : ∀ (i : Nat) (q : Nat × String), mm_str[i]? = some q → Cond.stringRef "SchoolOnRaft$Reader" q.1 q.2 ∈ lw_tbl ∧ lw_tm i = Term.string "SchoolOnRaft$Reader" q.1 ∧ i < 12
  | 0, _, hq => by cases hq; exact ⟨List.mem_of_getElem? (i := 523) (by decide +kernel), rfl, by decide⟩
  | 1, _, hq => by cases hq; exact ⟨List.mem_of_getElem? (i := 576) (by decide +kernel), rfl, by decide⟩
  | 2, _, hq => by cases hq; exact ⟨List.mem_of_getElem? (i := 577) (by decide +kernel), rfl, by decide⟩
  | 3, _, hq => by cases hq; exact ⟨List.mem_of_getElem? (i := 578) (by decide +kernel), rfl, by decide⟩
  | 4, _, hq => by cases hq; exact ⟨List.mem_of_getElem? (i := 579) (by decide +kernel), rfl, by decide⟩
  | 5, _, hq => by cases hq; exact ⟨List.mem_of_getElem? (i := 580) (by decide +kernel), rfl, by decide⟩
  | 6, _, hq => by cases hq; exact ⟨List.mem_of_getElem? (i := 581) (by decide +kernel), rfl, by decide⟩
  | 7, _, hq => by cases hq; exact ⟨List.mem_of_getElem? (i := 582) (by decide +kernel), rfl, by decide⟩
  | 8, _, hq => by cases hq; exact ⟨List.mem_of_getElem? (i := 583) (by decide +kernel), rfl, by decide⟩
  | 9, _, hq => by cases hq; exact ⟨List.mem_of_getElem? (i := 584) (by decide +kernel), rfl, by decide⟩
  | 10, _, hq => by cases hq; exact ⟨List.mem_of_getElem? (i := 585) (by decide +kernel), rfl, by decide⟩
  | 11, _, hq => by cases hq; exact ⟨List.mem_of_getElem? (i := 586) (by decide +kernel), rfl, by decide⟩
  | n + 12, _, hq => by cases hq
theorem lw_on {w : Cond} (h : mm_isN w = true) : w.onTables = true := by
  cases w <;> first | rfl | cases h
section
variable {s : State} {A : Array Value}
theorem lw_ac {ty : FieldType} (h : (Cond.arrayClass ty).before A s = true) : ∃ cA : ClassId, ArrOfT s cA ty ∧ s.vm.findClass ("[" ++ ty.toString) = some cA := by
  obtain ⟨cA, k, comp, h1, h2, h3⟩ := Cond.arrayClass_spec h
  exact ⟨cA, fun n z => ⟨fun k h => (by cases h), k, h2, comp, h3⟩, h1⟩
theorem lw_ao {C : String} (h : (Cond.arrayOver (.object C)).before A s = true) : ∃ cA : ClassId, ArrOfT s cA (.object C) ∧ va_RA s cA (.object C) := by
  obtain ⟨comp, cA, k, h1, h2, h3, h4, h5⟩ := Cond.arrayOver_spec h
  exact ⟨cA, fun n z => ⟨fun k h => (by cases h), k, h3, comp, h4⟩, k, comp, h3, h4, h1, h5⟩
theorem lw_aa {ty : FieldType} (h : (Cond.arrayOver (.array ty)).before A s = true) : ∃ cA : ClassId, ArrOfT s cA (.array ty) ∧ va_RA s cA (.array ty) := by
  obtain ⟨comp, cA, k, h1, h2, h3, h4⟩ := Cond.arrayOver_specA h
  exact ⟨cA, fun n z => ⟨fun k h => (by cases h), k, h2, comp, h3⟩, h4⟩
end
theorem whole_start {p : Program} {e : Env} {s : State} {m : MethodId} {below : List Frame} {meth : Method} {c : Code} (l : Launch) {b L : Nat} {xs : Nat → Int32} (hL : L ≤ 3072) (C0 : lw_At p s m meth c b L xs) (hname : meth.name = "law") : W p l e room_1 s m #[Value.ref b] below meth c s.heap [] 0 0 (lw_Z below #[Value.ref b] s) (entryFrame m ([Value.ref b] : List Value).toArray 4) := by
  obtain ⟨hx, hb, hr, hml, hown, hts, hX, hbl, hlocks, hgv⟩ := id C0
  have hG : ∀ w ∈ mm_G, w.before #[Value.ref b] s = true := fun w hw => hts w (List.mem_filter.mp hw).1
  have hF : ∀ w ∈ lw_F, w.before #[Value.ref b] s = true := flat_of_before _ hgv
  have hA : ∀ a : Nat, a < s.heap.size → ¬ s.heap.size ≤ a := fun a h => Nat.not_le.mpr h
  -- classes
  have hk : ∀ (k : Nat) (q : vw_C), vwCl[k]? = some q → ∃ (cC : ClassId) (iS : Nat → Nat), u_Kn s q.1 q.2.1 q.2.2 cC iS := fun k q hq => u_known (n := q.2.2) hG (mm_cls hq).2.2 (hG _ (lw_ib k q hq))
  have h0 : ∀ k : Nat, ∃ x : ClassId × (Nat → Nat), ∀ q : vw_C, vwCl[k]? = some q → u_Kn s q.1 q.2.1 q.2.2 x.1 x.2 := fun k => by
    cases hq : vwCl[k]? with
    | some q =>
      obtain ⟨cC, iS, h⟩ := hk k q hq
      exact ⟨(cC, iS), fun q' h' => by cases h'; exact h⟩
    | none =>
      obtain ⟨cC, iS, -⟩ := hk 0 _ rfl
      exact ⟨(cC, iS), fun q' h' => by cases h'⟩
  obtain ⟨fc, hfc⟩ := Classical.axiomOfChoice h0
  -- array classes
  obtain ⟨a0, a01, a02⟩ := lw_ac (hG _ ac_int)
  obtain ⟨a1, a11, a12⟩ := lw_ac (hG _ ac_bool)
  have w2 : (Cond.arrayOver (.object "SchoolOnRaft$Text")).before #[Value.ref b] s = true := hts _ (List.mem_of_getElem? (i := 180) (by decide +kernel))
  have w3 : (Cond.arrayOver (.object "SchoolOnRaft$Kind")).before #[Value.ref b] s = true := hts _ (List.mem_of_getElem? (i := 182) (by decide +kernel))
  have w4 : (Cond.arrayOver (.array .int)).before #[Value.ref b] s = true := hts _ (List.mem_of_getElem? (i := 332) (by decide +kernel))
  obtain ⟨a2, a21, a22⟩ := lw_ao w2
  obtain ⟨a3, a31, a32⟩ := lw_ao w3
  obtain ⟨a4, a41, a42⟩ := lw_aa w4
  have hK : va_K (fun k => (fc k).1, fun k => (fc k).2) vwCl [(a0, .int), (a1, .boolean), (a2, .object "SchoolOnRaft$Text"), (a3, .object "SchoolOnRaft$Kind"), (a4, .array .int)] s := by
    refine ⟨fun k q hq => hfc k q hq, fun k q hq => ?_⟩
    match k, hq with
    | 0, hq => cases hq; exact ⟨a01, a02⟩
    | 1, hq => cases hq; exact ⟨a11, a12⟩
    | 2, hq => cases hq; exact ⟨a21, a22⟩
    | 3, hq => cases hq; exact ⟨a31, a32⟩
    | 4, hq => cases hq; exact ⟨a41, a42⟩
    | n + 5, hq => cases hq
  -- the String constants
  obtain ⟨adK, adV, hS, hev⟩ := vk_Sof (args := #[Value.ref b]) (s := s) (N := 12) (tm := lw_tm) (len := mm_sl) (byt := mm_sb) (A := fun q => s.heap.size ≤ q) (by decide) (fun i hi => hF _ (lw_ex i hi)) (fun i hi => hF _ (lw_co i hi)) (fun i hi => hF _ (lw_ar i hi)) (fun i hi => hF _ (lw_le i hi)) (fun i hi j hj => hF _ (lw_el i hi j hj)) (fun i j hi hj hij => (lw_ne i hi j hj hij).imp (hF _) (hF _)) hA
  have hZ : va_Z "java/lang/String" "COMPACT_STRINGS" "Z" (.int 1) (fun q => s.heap.size ≤ q) s s.heap := va_Zof (hts _ (List.mem_of_getElem? (i := 537) (by decide +kernel))) (hG _ ii_St) (va_eqi (hF _ lw_cs)) hA
  have hY : va_Zq "jdk/internal/util/Preconditions" "SIOOBE_FORMATTER" "Ljava/util/function/BiFunction;" (fun q => s.heap.size ≤ q) s s.heap := va_Zqof (hts _ (List.mem_of_getElem? (i := 553) (by decide +kernel))) (hG _ ii_Pr) (hF _ lw_fo) hA
  obtain ⟨fo, hfo⟩ : ∃ fo : Nat, va_Z "jdk/internal/util/Preconditions" "SIOOBE_FORMATTER" "Ljava/util/function/BiFunction;" .null (fun q => s.heap.size ≤ q) s s.heap ∨ va_Z "jdk/internal/util/Preconditions" "SIOOBE_FORMATTER" "Ljava/util/function/BiFunction;" (.ref fo) (fun q => s.heap.size ≤ q) s s.heap := by
    rcases hY with h | ⟨fo, h⟩
    · exact ⟨0, Or.inl h⟩
    · exact ⟨fo, Or.inr h⟩
  let X : mm_X := ((fun k => (fc k).1, fun k => (fc k).2), (fun k => match k with | 0 => a0 | 1 => a1 | 2 => a2 | 3 => a3 | _ => a4), s.heap.size, (fun i => if i = 200 then fo else adK i, adV), b, L, xs)
  have eK : ∀ i, i < 12 → (if i = 200 then fo else adK i) = adK i := fun i hi => if_neg (by omega)
  have hT : mm_T X s := by
    refine ⟨hK, fun w hw => ?_, w2, w3, w4, fun q hq => va_Nc.of (hF _ (lw_nc q hq)), fun i q hq => ?_⟩
    · exact va_Nw.of (lw_on (List.mem_filter.mp hw).2) (hts w (List.mem_filter.mp hw).1)
    · obtain ⟨s1, s2, s3⟩ := lw_st i q hq
      show vk_R "SchoolOnRaft$Reader" q.1 q.2 (if i = 200 then fo else adK i) s
      rw [eK i s3]
      exact vk_R.of (hts _ s1) (by rw [← s2]; exact hev i s3)
  have hO : mm_O X s s.heap := by
    refine ⟨?_, hZ, hX, hbl, Nat.le_refl _, ?_⟩
    · refine ⟨fun i hi => ?_, fun i j hi hj h => ?_⟩
      · show va_O "java/lang/String" (if i = 200 then fo else adK i) _ s s.heap ∧ va_OF "java/lang/String" "coder" "B" (.int 0) (if i = 200 then fo else adK i) _ s s.heap ∧ va_OF "java/lang/String" "value" "[B" (.ref (adV i)) (if i = 200 then fo else adK i) _ s s.heap ∧ _
        rw [eK i hi]
        exact hS.1 i hi
      · have h : (if i = 200 then fo else adK i) = (if j = 200 then fo else adK j) := h
        rw [eK i hi, eK j hj] at h
        exact hS.2 i j hi hj h
    · show va_Z _ _ _ .null _ s s.heap ∨ va_Z _ _ _ (.ref (if (200 : Nat) = 200 then fo else adK 200)) _ s s.heap
      rw [if_pos rfl]
      exact hfo
  have hC : mm_C p s m #[Value.ref b] meth c M_La_law X := ⟨hx, hb, hml, hr, hlocks, hown, hG, hname, hT, hO⟩
  have hR : mm_Rel X (fun _ => 0) ([], fun _ _ => 0, fun _ _ => 0, L, xs) s.heap := ⟨fun k q h => by simp [mm_lay] at h, ⟨fun i j p q h => by simp [mm_lay] at h, fun k q h => by simp [mm_lay] at h⟩, rfl⟩
  have hl := mm_entry (X := X) (ad := fun _ => 0) [.float 0] (n := 4) (by decide)
  have h := law_start (fun _ _ => 0) (fun _ _ => 0, L, xs) (fun _ _ => rfl) (fun _ _ _ => rfl) hL p l e s m #[Value.ref b] below meth c X (fun _ => 0) 0 (fun _ => 0) s.heap [] _ hC (fun k hk => absurd hk (Nat.not_lt_zero k)) (Nat.zero_le _) hR va_S.rf hl
  rw [lg_entry_eq]
  intro T hT2 Xs
  obtain ⟨t, st, o, hrun, hend, ⟨⟨v, hh, ad, ho, hQ, -⟩, -⟩, Lc, hFE, hfree⟩ := h T hT2 Xs
  refine ⟨t, st, o, hrun, hend, ?_, ?_⟩
  · rw [ho, hQ]
    rfl
  · obtain ⟨f1, f2, f3⟩ := hFE
    exact ⟨f1, f2, State.sameButNew.drop_fresh (L := []) (J := Lc) f3 hfree⟩
