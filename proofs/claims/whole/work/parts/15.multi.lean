/-! ===== new int[N][K] over the picture ===== -/
def mm_mg (g : Nat → Nat → Int32) (n N : Nat) : Nat → Nat → Int32 := fun a b => if a < n then g a b else if a = n then (if b < N then nI (n + b + 2) else 0) else 0
def mm_ml (g : Nat → Nat → Int64) (n : Nat) : Nat → Nat → Int64 := fun a b => if a < n then g a b else 0
def mm_mn (h : mm_Hp) (N K : Nat) : mm_Hp := ((h.1 ++ [.inl (4, N)]) ++ List.replicate N (.inl (0, K)), mm_mg h.2.1 h.1.length N, mm_ml h.2.2.1 h.1.length, h.2.2.2)
def mm_mx (ad : Nat → Nat) (n q : Nat) (r : Nat → Nat) : Nat → Nat := fun k => if k < n then ad k else if k = n then q else r (k - n - 1)
theorem mm_mx_lt {ad : Nat → Nat} {n q : Nat} {r : Nat → Nat} {k : Nat} (h : k < n) : mm_mx ad n q r k = ad k := if_pos h
theorem mm_mg_lt {g : Nat → Nat → Int32} {n N k : Nat} (h : k < n) : mm_mg g n N k = g k := by
  funext i
  simp [mm_mg, h]
theorem mm_ml_lt {g : Nat → Nat → Int64} {n k : Nat} (h : k < n) : mm_ml g n k = g k := by
  funext i
  simp [mm_ml, h]
theorem mm_cv_mn {X : mm_X} {ad : Nat → Nat} {h : mm_Hp} {c : mm_Sh} {q k N K : Nat} {r : Nat → Nat} (hw : mm_wf h) (hk : h.1[k]? = some c) : mm_cv X (mm_mx ad h.1.length q r) (mm_mn h N K) k c = mm_cv X ad h k c := by
  have hlt : k < h.1.length := (List.getElem?_eq_some_iff.mp hk).1
  obtain ⟨w1, w2⟩ := hw k c hk
  cases c with
  | inl a =>
    have e0 : (mm_mn h N K).2.1 k = h.2.1 k := mm_mg_lt hlt
    simp only [mm_cv, e0]
    by_cases ht : a.1 < 2
    · simp only [if_pos ht]
    · simp only [if_neg ht]
      congr 7
      funext i
      have h1 := (w1 a rfl).resolve_left ht i
      unfold mm_rd
      split
      · rfl
      · rename_i hx
        rw [mm_mx_lt]
        have : 0 < (h.2.1 k i).toNatClampNeg := by
          have h0 : (0 : Int32) < h.2.1 k i := by rw [← Int32.not_le]; exact hx
          have h2 : (0 : Int) < (h.2.1 k i).toInt := by simpa using Int32.lt_iff_toInt_lt.mp h0
          show 0 < (h.2.1 k i).toInt.toNat
          omega
        omega
  | inr o =>
    simp only [mm_cv]
    congr 2
    apply List.ext_getElem?
    intro j
    rw [List.getElem?_mapIdx, List.getElem?_mapIdx]
    have h1 := fun f hf => w2 o rfl f (List.mem_of_getElem? (i := j) hf)
    generalize o.2[j]? = z at h1
    cases z with
    | none => rw [Option.map_none, Option.map_none]
    | some f =>
      rw [Option.map_some, Option.map_some]
      have hf := h1 f rfl
      match f, hf with
      | 0, _ => exact congrArg (fun x => some (Value.int x)) (congrFun (mm_mg_lt hlt) j)
      | 1, _ => exact congrArg (fun x => some (Value.long x)) (congrFun (mm_ml_lt hlt) j)
      | 2, _ => rfl
      | f + 3, hf => exact congrArg (fun x => some (Value.ref x)) (mm_mx_lt (by omega))
theorem mm_lay_mn {X : mm_X} {ad : Nat → Nat} {h : mm_Hp} {q N K : Nat} {r : Nat → Nat} (f : Nat → va_E) (hw : mm_wf h) (hN : h.1.length + N + 2 < 2 ^ 31) : mm_lay X (mm_mx ad h.1.length q r) (mm_mn h N K) = (mm_lay X ad h ++ [(q, .inl (X.2.1 4, N, .inr (.inr (.inr (.inr (fun i => if i < N then some (r i) else none))))))]) ++ va_pl ([] ++ (List.range N).map r) (vr_up f ((List.range N).map r) (.inl (X.2.1 0, K, .inl (fun _ => 0)))) := by
  refine List.ext_getElem? (fun j => ?_)
  rw [mm_lay_get]
  have e1 : (mm_mn h N K).1 = (h.1 ++ [.inl (4, N)]) ++ List.replicate N (.inl (0, K)) := rfl
  rw [e1]
  have hlA : (mm_lay X ad h ++ [((q, .inl (X.2.1 4, N, .inr (.inr (.inr (.inr (fun i => if i < N then some (r i) else none)))))) : Nat × va_E)]).length = h.1.length + 1 := by rw [List.length_append, mm_lay_len]; rfl
  have hlB : (h.1 ++ [(.inl (4, N) : mm_Sh)]).length = h.1.length + 1 := by rw [List.length_append]; rfl
  by_cases hj : j < h.1.length
  · rw [List.getElem?_append_left (by omega), List.getElem?_append_left hj, List.getElem?_append_left (by omega), List.getElem?_append_left (by rw [mm_lay_len]; exact hj), mm_lay_get]
    have h2 := fun c hc => mm_cv_mn (X := X) (ad := ad) (q := q) (k := j) (c := c) (N := N) (K := K) (r := r) hw hc
    generalize h.1[j]? = z at h2
    cases z with
    | none => rw [Option.map_none, Option.map_none]
    | some c => rw [Option.map_some, Option.map_some, h2 c rfl, mm_mx_lt hj]
  · by_cases e : j = h.1.length
    · subst e
      rw [List.getElem?_append_left (by omega), List.getElem?_append_right (by omega), List.getElem?_append_left (by omega), List.getElem?_append_right (by rw [mm_lay_len]; omega), mm_lay_len, Nat.sub_self]
      show some (mm_mx ad h.1.length q r h.1.length, mm_cv X (mm_mx ad h.1.length q r) (mm_mn h N K) h.1.length (.inl (4, N))) = some (q, _)
      have e5 : mm_mx ad h.1.length q r h.1.length = q := by simp [mm_mx]
      rw [e5]
      congr 2
      simp only [mm_cv, if_neg (show ¬ (4 : Nat) < 2 by decide)]
      congr 7
      funext i
      show mm_rd _ (mm_mg h.2.1 h.1.length N h.1.length i) = _
      have e6 : mm_mg h.2.1 h.1.length N h.1.length i = if i < N then nI (h.1.length + i + 2) else 0 := by simp [mm_mg]
      rw [e6]
      by_cases hi : i < N
      · rw [if_pos hi, if_pos hi, show h.1.length + i + 2 = (h.1.length + i + 1) + 1 by omega, mm_rd_ref (by omega)]
        congr 1
        unfold mm_mx
        rw [if_neg (by omega), if_neg (by omega)]
        congr 1
        omega
      · rw [if_neg hi, if_neg hi]
        rfl
    · rw [List.getElem?_append_right (by omega), List.getElem?_append_right (by omega), hlA, hlB]
      unfold va_pl
      rw [List.nil_append, List.getElem?_map, List.getElem?_map]
      by_cases hN' : j - (h.1.length + 1) < N
      · rw [List.getElem?_replicate, if_pos hN', List.getElem?_range hN', Option.map_some, Option.map_some, Option.map_some]
        have e7 : mm_mx ad h.1.length q r j = r (j - (h.1.length + 1)) := by
          unfold mm_mx
          rw [if_neg hj, if_neg e]
          congr 1
        rw [e7, vr_up_in (List.mem_map.mpr ⟨_, List.mem_range.mpr hN', rfl⟩)]
        congr 2
        simp only [mm_cv, if_pos (show (0 : Nat) < 2 by decide)]
        congr 4
        funext i
        show mm_mg h.2.1 h.1.length N j i = 0
        simp [mm_mg, hj, e]
      · rw [List.getElem?_replicate, if_neg hN', List.getElem?_eq_none (by rw [List.length_range]; omega)]
        rfl
section
variable {d : Nat} {M : mm_M} {mc ms : Nat} {Q : Option Value → mm_Hp → Prop} {nc ns pc : Nat} {lv : mm_L} {st : List Value} {h : mm_Hp}
theorem mm_mna {n k : Int32} {N K idx : Nat} (hcl : Cond.classLink M.1.cls idx "[[I" ∈ mm_G) (harr : Cond.arrayClass .int ∈ mm_G) (hn0 : ¬ n < 0) (hk0 : ¬ k < 0) (hN : n.toNatClampNeg = N) (hK : k.toNatClampNeg = K) (hN1 : N ≤ 100000) (hK1 : K ≤ 100000) (hL : h.1.length ≤ 1000000) (hd : decode M.2.1 pc = .ok (.multianewarray idx 2, 4)) (hm : nc + 1 + N ≤ mc ∧ ns + N + N * K ≤ ms) (hw : mm_wf h) (hvs : mm_vs h.1.length lv st)
    (kk : mm_W d M mc ms Q (nc + 1 + N) (ns + N + N * K) (pc + 4, lv, .ref h.1.length :: st, mm_mn h N K)) : mm_W d M mc ms Q nc ns (pc, lv, .int k :: .int n :: st, h) := by
  intro p l e s m args below meth c X ad0 n0 ad H locs ls C ha hn hR hS hl
  have C' := C
  obtain ⟨hx, hb, hml, hr, hlo, hown, hts, hnm, hT, hO⟩ := C'
  have hA : ∀ q : Nat, s.heap.size ≤ q → mm_A X q := fun q hq => Nat.le_trans hO.2.2.2.2.1 hq
  have hcy : s.vm.findClass (FieldType.array .int).toString = some (X.2.1 0) := (hT.1.2 0 _ rfl).2
  have hl0 : mm_lay X ad h = mm_lay X ad h ++ va_pl [] (fun _ => .inr (0, [])) := (List.append_nil _).symm
  refine va_mna (D := X.1) (cl := vwCl) (X := mm_lay X ad h) (L := []) (f := fun _ => .inr (0, [])) (ty := .int) (cy := X.2.1 0) (z := (K, .inl (fun _ => 0))) hx hb hown (hts _ hcl) hT.2.2.2.2.1 (hts _ harr) hcy hT.1 (by rw [← hl0]; exact hR.1) (by rw [← hl0]; exact hR.2.1) hS hA hn0 hk0 hN hK (by omega) (by show K * 4 ≤ _; omega) (by omega) (by decide +kernel) (by decide +kernel) (by show nc + (1 + N) ≤ mc; omega) (by show ns + (N + N * K) ≤ ms; omega) ?_ hd (fun q rr cA H1 hinj hnot hK1 hP1 hD1 hS1 => ?_)
  · intro c
    show ({ cls := c, slots := Array.replicate K (.int 0), vm := .none } : Cell) = _
    rw [arrV_new]
    rfl
  · have ec := mm_uniq (t := 4) hT.1 rfl hK1
    subst ec
    have hag : ∀ k, k < h.1.length → mm_mx ad h.1.length q rr k = ad k := fun k hk => mm_mx_lt hk
    have e3 := mm_lay_mn (X := X) (ad := ad) (q := q) (N := N) (K := K) (r := rr) (fun _ => .inr (0, [])) hw (by omega)
    have k' := kk p l e s m args below meth c X ad0 n0 (mm_mx ad h.1.length q rr) H1 locs ls C (fun k hk => (hag k (Nat.lt_of_lt_of_le hk hn)).trans (ha k hk)) (by show n0 ≤ ((h.1 ++ [_]) ++ _).length; rw [List.length_append, List.length_append]; have : n0 ≤ h.1.length := hn; omega) ⟨by rw [e3]; exact hP1, by rw [e3]; exact hD1, hR.2.2⟩ hS1 (hl.ext hag hvs.1)
    simp only [List.map_cons, mm_st_ext hag hvs.2] at k'
    rw [show mm_rv X (mm_mx ad h.1.length q rr) (.ref h.1.length) = .ref q from congrArg Value.ref (by simp [mm_mx])] at k'
    exact k'
end
