/-! ===== the mini machine: a picture of the heap by cell numbers, a run of straight code by evaluation ===== -/
/-- a cell's shape: an array (type number, length), or an object (class number, fields: 0 an int, 1 a long, 2 null, k + 3 cell k) -/
abbrev mm_Sh : Type := (Nat × Nat) ⊕ (Nat × List Nat)
/-- shapes, ints by cell and place, (longs by cell and place, the script's length, the script) -/
abbrev mm_Hp : Type := List mm_Sh × (Nat → Nat → Int32) × (Nat → Nat → Int64) × Nat × (Nat → Int32)
/-- the setting: class numbers and slots, array classes, base, addresses of the String constants, the script -/
abbrev mm_X : Type := va_G × (Nat → ClassId) × Nat × ((Nat → Nat) × (Nat → Nat)) × Nat × Nat × (Nat → Int32)
abbrev mm_L : Type := List (Option Value)
abbrev mm_S : Type := Nat × mm_L × List Value × mm_Hp
abbrev mm_M : Type := MethodName × ByteArray × Nat × Option FieldType
/-- an instruction: its place, itself, its length, two numbers and a value that resolve it -/
abbrev mm_E : Type := Nat × Instr × Nat × Nat × Nat × Value
def mm_G : List Cond := lw_tbl.filter goodWord
def mm_up (g : Nat → Nat → Int32) (k j : Nat) (v : Int32) : Nat → Nat → Int32 := fun a b => bif (a == k && b == j) then v else g a b
def mm_ul (g : Nat → Nat → Int64) (k j : Nat) (v : Int64) : Nat → Nat → Int64 := fun a b => bif (a == k && b == j) then v else g a b
def mm_rv (X : mm_X) (ad : Nat → Nat) : Value → Value
  | .ref k => .ref (ad k)
  | .retAddr i => .ref (bif Nat.ble 100 i && Nat.blt i 200 then X.2.2.2.1.2 (i - 100) else X.2.2.2.1.1 i)
  | .float _ => .ref X.2.2.2.2.1
  | .int x => .int x
  | .long x => .long x
  | .double x => .double x
  | .null => .null
theorem mm_rv_cat {X : mm_X} {ad : Nat → Nat} (v : Value) : (mm_rv X ad v).category = v.category := by cases v <;> rfl
/-- a field's value in the picture, and in the heap -/
def mm_vF (h : mm_Hp) (k j : Nat) : Nat → Value
  | 0 => .int (h.2.1 k j)
  | 1 => .long (h.2.2.1 k j)
  | 2 => .null
  | c + 3 => .ref c
def mm_cF (ad : Nat → Nat) (h : mm_Hp) (k j : Nat) : Nat → Value
  | 0 => .int (h.2.1 k j)
  | 1 => .long (h.2.2.1 k j)
  | 2 => .null
  | c + 3 => .ref (ad c)
theorem mm_rv_vF {X : mm_X} {ad : Nat → Nat} {h : mm_Hp} {k j c : Nat} : mm_rv X ad (mm_vF h k j c) = mm_cF ad h k j c := by
  match c with
  | 0 => rfl
  | 1 => rfl
  | 2 => rfl
  | c + 3 => rfl
/-- a place of an array of references: 0 null, k + 1 cell k -/
def mm_rd (ad : Nat → Nat) (x : Int32) : Option Nat := if x ≤ 0 then none else some (ad (x.toNatClampNeg - 1))
def mm_rf (x : Int32) : Value := if x ≤ 0 then .null else .ref (x.toNatClampNeg - 1)
theorem mm_rv_rf {X : mm_X} {ad : Nat → Nat} {x : Int32} : mm_rv X ad (mm_rf x) = va_rf (mm_rd ad x) := by
  unfold mm_rf mm_rd
  split <;> rfl
def mm_cv (X : mm_X) (ad : Nat → Nat) (h : mm_Hp) (k : Nat) : mm_Sh → va_E
  | .inl a => .inl (X.2.1 a.1, a.2, if a.1 < 2 then .inl (h.2.1 k) else .inr (.inr (.inr (.inr (fun i => mm_rd ad (h.2.1 k i))))))
  | .inr o => .inr (o.1, o.2.mapIdx (fun j c => mm_cF ad h k j c))
def mm_lay (X : mm_X) (ad : Nat → Nat) (h : mm_Hp) : va_W := h.1.mapIdx (fun k c => (ad k, mm_cv X ad h k c))
theorem mm_lay_get {X : mm_X} {ad : Nat → Nat} {h : mm_Hp} (k : Nat) : (mm_lay X ad h)[k]? = (h.1[k]?).map (fun c => (ad k, mm_cv X ad h k c)) := by
  simp [mm_lay]
theorem mm_lay_at {X : mm_X} {ad : Nat → Nat} {h : mm_Hp} {k : Nat} {c : mm_Sh} (hk : h.1[k]? = some c) : (mm_lay X ad h)[k]? = some (ad k, mm_cv X ad h k c) := by
  rw [mm_lay_get, hk]; rfl
def mm_A (X : mm_X) : Nat → Prop := fun q => X.2.2.1 ≤ q
/-- the heap holds the picture -/
def mm_Rel (X : mm_X) (ad : Nat → Nat) (h : mm_Hp) (H : Heap) : Prop := va_P X.1 vwCl (mm_lay X ad h) H ∧ va_D (mm_A X) (mm_lay X ad h) ∧ h.2.2.2 = X.2.2.2.2.2
/-- array types by number -/
def mm_tys (cA : Nat → ClassId) : List (ClassId × FieldType) := [(cA 0, .int), (cA 1, .boolean), (cA 2, .object "SchoolOnRaft$Text"), (cA 3, .object "SchoolOnRaft$Kind"), (cA 4, .array .int)]
def mm_isN : Cond → Bool
  | .methodLinkNest .. => true
  | .castable .. => true
  | .declares _ => true
  | _ => false
def mm_N : List Cond := lw_tbl.filter mm_isN
/-- pairs of kinds that aren't castable -/
def mm_nc : List (String × String) := [("SchoolOnRaft$Kind", "SchoolOnRaft$LongKind"), ("SchoolOnRaft$Kind", "SchoolOnRaft$LightKind"), ("SchoolOnRaft$Kind", "SchoolOnRaft$HardKind"), ("SchoolOnRaft$Kind", "SchoolOnRaft$SongKind"), ("SchoolOnRaft$Kind", "SchoolOnRaft$ProofKind"),
  ("SchoolOnRaft$LongKind", "SchoolOnRaft$LightKind"), ("SchoolOnRaft$LongKind", "SchoolOnRaft$HardKind"), ("SchoolOnRaft$LongKind", "SchoolOnRaft$SongKind"), ("SchoolOnRaft$LongKind", "SchoolOnRaft$ProofKind"),
  ("SchoolOnRaft$LightKind", "SchoolOnRaft$LongKind"), ("SchoolOnRaft$LightKind", "SchoolOnRaft$HardKind"), ("SchoolOnRaft$LightKind", "SchoolOnRaft$SongKind"), ("SchoolOnRaft$LightKind", "SchoolOnRaft$ProofKind"),
  ("SchoolOnRaft$HardKind", "SchoolOnRaft$LightKind"), ("SchoolOnRaft$HardKind", "SchoolOnRaft$SongKind"), ("SchoolOnRaft$HardKind", "SchoolOnRaft$ProofKind"),
  ("SchoolOnRaft$SongKind", "SchoolOnRaft$LongKind"), ("SchoolOnRaft$SongKind", "SchoolOnRaft$HardKind"), ("SchoolOnRaft$SongKind", "SchoolOnRaft$ProofKind"),
  ("SchoolOnRaft$ProofKind", "SchoolOnRaft$LightKind"), ("SchoolOnRaft$ProofKind", "SchoolOnRaft$HardKind"), ("SchoolOnRaft$ProofKind", "SchoolOnRaft$SongKind")]
/-- the String constants of Reader: the pool's places and the texts -/
def mm_str : List (Nat × String) := [(95, "bend"), (101, "child"), (103, "lesson"), (105, "known"), (107, "age"), (109, "often"), (111, "or"), (113, "and"), (115, "not"), (117, "hears"), (119, "worth"), (121, "runs")]
def mm_sl : List Nat := [4, 5, 6, 5, 3, 5, 2, 3, 3, 5, 5, 4]
def mm_sb : List (List Int32) := [[98, 101, 110, 100], [99, 104, 105, 108, 100], [108, 101, 115, 115, 111, 110], [107, 110, 111, 119, 110], [97, 103, 101], [111, 102, 116, 101, 110], [111, 114], [97, 110, 100], [110, 111, 116], [104, 101, 97, 114, 115], [119, 111, 114, 116, 104], [114, 117, 110, 115]]
/-- what holds of the tables at every state of the law's run -/
def mm_T (X : mm_X) (U : State) : Prop := va_K X.1 vwCl (mm_tys X.2.1) U ∧ (∀ w ∈ mm_N, va_Nw w U) ∧ va_AO "SchoolOnRaft$Text" U ∧ va_AO "SchoolOnRaft$Kind" U ∧ va_AOA .int U ∧ (∀ q ∈ mm_nc, va_Nc q.1 q.2 U) ∧ ∀ (i : Nat) (q : Nat × String), mm_str[i]? = some q → vk_R "SchoolOnRaft$Reader" q.1 q.2 (X.2.2.2.1.1 i) U
/-- what holds of the heap's old part -/
def mm_O (X : mm_X) (U : State) (H : Heap) : Prop := vk_S 12 mm_sl mm_sb X.2.2.2.1.1 X.2.2.2.1.2 (mm_A X) U H ∧ va_Z "java/lang/String" "COMPACT_STRINGS" "Z" (.int 1) (mm_A X) U H ∧ va_X X.2.2.2.2.1 X.2.2.2.2.2.1 X.2.2.2.2.2.2 U H ∧ X.2.2.2.2.1 < X.2.2.1 ∧ X.2.2.1 ≤ H.size ∧ (va_Z "jdk/internal/util/Preconditions" "SIOOBE_FORMATTER" "Ljava/util/function/BiFunction;" .null (mm_A X) U H ∨ va_Z "jdk/internal/util/Preconditions" "SIOOBE_FORMATTER" "Ljava/util/function/BiFunction;" (.ref (X.2.2.2.1.1 200)) (mm_A X) U H)
