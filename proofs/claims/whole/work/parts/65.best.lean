/-! ===== plans as codes; the first best code ===== -/
def dg0 : Nat → Option Nat
  | 0 => none
  | d + 1 => some d
def dec_ (N x b : Nat) : Option Nat := dg0 (x / N ^ (5 - b) % N)
/-- what a child carries ahead of bend b, by the b digits of x -/
noncomputable def rp_ (T : sp_T) (H : Nat → Nat → Nat → Nat → Bool) (on off N : Nat) : Nat → Nat → sp_C
  | 0, _ => (fun _ => 0, fun _ => 0)
  | b + 1, x => if on ≤ b ∧ b ≤ off then sp_stp T H b (dg0 (x % N)) (rp_ T H on off N b (x / N)) else rp_ T H on off N b (x / N)
theorem rp_run {T : sp_T} {H : Nat → Nat → Nat → Nat → Bool} {on off N x : Nat} : ∀ b, b ≤ 6 → rp_ T H on off N b (x / N ^ (6 - b)) = sp_run T H (dec_ N x) on off b
  | 0, _ => rfl
  | b + 1, hb => by
    have ih := rp_run (T := T) (H := H) (on := on) (off := off) (N := N) (x := x) b (by omega)
    have e1 : x / N ^ (6 - (b + 1)) / N = x / N ^ (6 - b) := by
      rw [Nat.div_div_eq_div_mul, ← Nat.pow_succ, show (6 - (b + 1)).succ = 6 - b by omega]
    simp only [rp_, sp_run, dec_]
    rw [e1, ih, show 6 - (b + 1) = 5 - b by omega]
theorem rp_6 {T : sp_T} {H : Nat → Nat → Nat → Nat → Bool} {on off N x : Nat} : rp_ T H on off N 6 x = sp_run T H (dec_ N x) on off 6 := by
  have := rp_run (T := T) (H := H) (on := on) (off := off) (N := N) (x := x) 6 (Nat.le_refl _)
  rwa [Nat.sub_self, Nat.pow_zero, Nat.div_one] at this
theorem rp_le {T : sp_T} {H : Nat → Nat → Nat → Nat → Bool} {on off N : Nat} : ∀ b x i, i < 4 → (rp_ T H on off N b x).1 i ≤ b ∧ (rp_ T H on off N b x).2 i ≤ b
  | 0, _, _, _ => ⟨Nat.le_refl _, Nat.le_refl _⟩
  | b + 1, x, i, hi => by
    have h0 := rp_le (T := T) (H := H) (on := on) (off := off) (N := N) b (x / N)
    have h1 := h0 i hi
    simp only [rp_]
    split
    · unfold sp_stp
      split
      · omega
      · split
        · exact sp_lis_le h0 i hi
        · omega
    · omega
theorem dm_ {N y d : Nat} (hd : d < N) : (y * N + d) / N = y ∧ (y * N + d) % N = d := by
  have hN : 0 < N := by omega
  constructor
  · rw [Nat.mul_comm, Nat.mul_add_div hN, Nat.div_eq_of_lt hd]; rfl
  · rw [Nat.mul_comm, Nat.mul_add_mod, Nat.mod_eq_of_lt hd]
theorem rp_st {T : sp_T} {H : Nat → Nat → Nat → Nat → Bool} {on off N b y d : Nat} (hd : d < N) : rp_ T H on off N (b + 1) (y * N + d) = if on ≤ b ∧ b ≤ off then sp_stp T H b (dg0 d) (rp_ T H on off N b y) else rp_ T H on off N b y := by
  simp only [rp_]
  rw [(dm_ hd).1, (dm_ hd).2]
theorem rp_ext {T : sp_T} {H : Nat → Nat → Nat → Nat → Bool} {on off N b y y' : Nat} (hN : 0 < N) (h : rp_ T H on off N b y = rp_ T H on off N b y') : ∀ m j, j < N ^ m → rp_ T H on off N (b + m) (y * N ^ m + j) = rp_ T H on off N (b + m) (y' * N ^ m + j)
  | 0, j, hj => by
    rw [Nat.pow_zero] at hj
    rw [show j = 0 by omega, Nat.pow_zero, Nat.mul_one, Nat.mul_one]
    exact h
  | m + 1, j, hj => by
    have hdj : j / N < N ^ m := Nat.div_lt_of_lt_mul (by rw [Nat.mul_comm, ← Nat.pow_succ]; exact hj)
    have ih := rp_ext hN h m (j / N) hdj
    have e : ∀ z, z * N ^ (m + 1) + j = (z * N ^ m + j / N) * N + j % N := fun z => by
      rw [Nat.add_mul, Nat.pow_succ, Nat.mul_assoc, Nat.add_assoc, Nat.mul_comm (j / N) N, Nat.div_add_mod]
    rw [e y, e y', show b + (m + 1) = b + m + 1 by omega, rp_st (Nat.mod_lt _ hN), rp_st (Nat.mod_lt _ hN), ih]
section
variable (W : Nat → Nat) (N : Nat)
def bu_ (st : Nat × Nat) (x : Nat) : Nat × Nat := if st.1 ≤ W x then (W x + 1, x) else st
def bd_ (f : Nat → Nat × Nat → Nat × Nat) : Nat → Nat × Nat → Nat × Nat
  | 0, st => st
  | d + 1, st => f d (bd_ f d st)
def bf_ : Nat → Nat → Nat × Nat → Nat × Nat
  | 0, x, st => bu_ W st x
  | m + 1, x, st => bd_ (fun d st => bf_ m (x * N + d) st) N st
theorem bd_add (f : Nat → Nat × Nat → Nat × Nat) (a : Nat) : ∀ b st, bd_ f (a + b) st = bd_ (fun j => f (a + j)) b (bd_ f a st)
  | 0, _ => rfl
  | b + 1, st => by
    show f (a + b) (bd_ f (a + b) st) = _
    rw [bd_add f a b st]
    rfl
theorem bd_mul (g : Nat → Nat × Nat → Nat × Nat) (M : Nat) : ∀ n st, bd_ (fun d st => bd_ (fun j => g (d * M + j)) M st) n st = bd_ g (n * M) st
  | 0, st => by rw [Nat.zero_mul]; rfl
  | n + 1, st => by
    show bd_ (fun j => g (n * M + j)) M (bd_ _ n st) = _
    rw [bd_mul g M n st, Nat.add_mul, Nat.one_mul, bd_add g (n * M) M st]
theorem bd_cong {f g : Nat → Nat × Nat → Nat × Nat} : ∀ n st, (∀ d st, d < n → f d st = g d st) → bd_ f n st = bd_ g n st
  | 0, _, _ => rfl
  | n + 1, st, h => by
    show f n (bd_ f n st) = g n (bd_ g n st)
    rw [bd_cong n st (fun d st hd => h d st (by omega)), h n _ (by omega)]
theorem bf_eq : ∀ m x st, bf_ W N m x st = bd_ (fun j st => bu_ W st (x * N ^ m + j)) (N ^ m) st
  | 0, x, st => by
    show bu_ W st x = bu_ W st (x * N ^ 0 + 0)
    rw [Nat.pow_zero, Nat.mul_one, Nat.add_zero]
  | m + 1, x, st => by
    show bd_ (fun d st => bf_ W N m (x * N + d) st) N st = _
    rw [bd_cong (g := fun d st => bd_ (fun j st => bu_ W st (x * N ^ (m + 1) + (d * N ^ m + j))) (N ^ m) st) N st (fun d st _ => by
      rw [bf_eq m (x * N + d) st]
      congr 1
      funext j st
      rw [Nat.add_mul, Nat.pow_succ, Nat.mul_assoc, Nat.mul_comm N (N ^ m), Nat.add_assoc])]
    rw [bd_mul (fun j st => bu_ W st (x * N ^ (m + 1) + j)) (N ^ m) N st, Nat.pow_succ, Nat.mul_comm N (N ^ m)]
theorem bu_le (st : Nat × Nat) (x : Nat) : st.1 ≤ (bu_ W st x).1 ∧ W x + 1 ≤ (bu_ W st x).1 := by
  unfold bu_
  split
  · exact ⟨by show st.1 ≤ W x + 1; omega, Nat.le_refl _⟩
  · exact ⟨Nat.le_refl _, by omega⟩
theorem bd_le (f : Nat → Nat) : ∀ n st, st.1 ≤ (bd_ (fun j st => bu_ W st (f j)) n st).1 ∧ ∀ j, j < n → W (f j) + 1 ≤ (bd_ (fun j st => bu_ W st (f j)) n st).1
  | 0, st => ⟨Nat.le_refl _, fun j hj => absurd hj (Nat.not_lt_zero j)⟩
  | n + 1, st => by
    have ih := bd_le f n st
    have h1 := bu_le W (bd_ (fun j st => bu_ W st (f j)) n st) (f n)
    refine ⟨Nat.le_trans ih.1 h1.1, fun j hj => ?_⟩
    by_cases e : j = n
    · rw [e]; exact h1.2
    · exact Nat.le_trans (ih.2 j (by omega)) h1.1
theorem bd_noop (f : Nat → Nat) : ∀ n st, (∀ j, j < n → W (f j) + 1 ≤ st.1) → bd_ (fun j st => bu_ W st (f j)) n st = st
  | 0, _, _ => rfl
  | n + 1, st, h => by
    show bu_ W (bd_ _ n st) (f n) = st
    rw [bd_noop f n st (fun j hj => h j (by omega))]
    unfold bu_
    rw [if_neg (by have := h n (by omega); omega)]
theorem bf_ge (m x : Nat) (st : Nat × Nat) : st.1 ≤ (bf_ W N m x st).1 ∧ ∀ j, j < N ^ m → W (x * N ^ m + j) + 1 ≤ (bf_ W N m x st).1 := by
  rw [bf_eq]
  exact bd_le W (fun j => x * N ^ m + j) (N ^ m) st
theorem bf_noop (m x : Nat) (st : Nat × Nat) (h : ∀ j, j < N ^ m → W (x * N ^ m + j) + 1 ≤ st.1) : bf_ W N m x st = st := by
  rw [bf_eq]
  exact bd_noop W (fun j => x * N ^ m + j) (N ^ m) st h
/-- the first of the codes 0 .. j of most points -/
def fm_ : Nat → Nat
  | 0 => 0
  | j + 1 => if W (fm_ j) < W (j + 1) then j + 1 else fm_ j
theorem fm_le : ∀ j, fm_ W j ≤ j
  | 0 => Nat.le_refl _
  | j + 1 => by
    have := fm_le j
    simp only [fm_]
    split <;> omega
theorem bd_fm : ∀ j, bd_ (fun j st => bu_ W st j) (j + 1) (0, 0) = (W (fm_ W j) + 1, fm_ W j)
  | 0 => by
    show bu_ W (0, 0) 0 = _
    unfold bu_
    rw [if_pos (Nat.zero_le _)]
    rfl
  | j + 1 => by
    show bu_ W (bd_ (fun j st => bu_ W st j) (j + 1) (0, 0)) (j + 1) = _
    rw [bd_fm j]
    unfold bu_
    simp only [fm_]
    by_cases h : W (fm_ W j) < W (j + 1)
    · rw [if_pos h, if_pos (by show W (fm_ W j) + 1 ≤ _; omega)]
    · rw [if_neg h, if_neg (by show ¬ W (fm_ W j) + 1 ≤ _; omega)]
theorem bf_fm (hN : 0 < N) : bf_ W N 6 0 (0, 0) = (W (fm_ W (N ^ 6 - 1)) + 1, fm_ W (N ^ 6 - 1)) := by
  rw [bf_eq, ← bd_fm]
  have h6 : 0 < N ^ 6 := Nat.pow_pos hN
  rw [show N ^ 6 - 1 + 1 = N ^ 6 by omega]
  congr 1
  funext j st
  rw [Nat.zero_mul, Nat.zero_add]
end
/-- a child's points by a code; all children's -/
noncomputable def pt6 (T : sp_T) (C : Nat → List Int32) (K : sp_K) (N x c : Nat) : Nat := sp_sum (sp_pt T (sp_W C K.2.2.2 c) (rp_ T (sp_H C K.2.2.2 c) (K.2.1 c) (K.2.2.1 c) N 6 x)) T.1
noncomputable def wt6 (T : sp_T) (C : Nat → List Int32) (K : sp_K) (N x : Nat) : Nat := sp_sum (pt6 T C K N x) K.1
theorem wt6_all {T : sp_T} {C : Nat → List Int32} {K : sp_K} {N x : Nat} : wt6 T C K N x = sp_all T C K (dec_ N x) := by
  unfold wt6 sp_all
  congr 1
  funext c
  unfold pt6 sp_pts
  rw [rp_6]
theorem sum_cong {f g : Nat → Nat} : ∀ n, (∀ c, c < n → f c = g c) → sp_sum f n = sp_sum g n
  | 0, _ => rfl
  | n + 1, h => by
    show sp_sum f n + f n = sp_sum g n + g n
    rw [sum_cong n (fun c hc => h c (by omega)), h n (by omega)]
/-- the best code, its points -/
noncomputable def bc_ (T : sp_T) (C : Nat → List Int32) (K : sp_K) : Nat := fm_ (wt6 T C K (T.1 + 1)) ((T.1 + 1) ^ 6 - 1)
noncomputable def bw_ (T : sp_T) (C : Nat → List Int32) (K : sp_K) : Nat := wt6 T C K (T.1 + 1) (bc_ T C K)
theorem bf_best {T : sp_T} {C : Nat → List Int32} {K : sp_K} : bf_ (wt6 T C K (T.1 + 1)) (T.1 + 1) 6 0 (0, 0) = (bw_ T C K + 1, bc_ T C K) := bf_fm _ _ (Nat.succ_pos _)
theorem pl_dg {d : Nat} : pl_c (dg0 d) = nI d - 1 := by
  cases d with
  | zero => rfl
  | succ d => show nI d = nI (d + 1) - 1; rw [nI_pred]
theorem dec_lt {N x b l : Nat} (hN : 0 < N) (h : dec_ N x b = some l) : l < N - 1 := by
  unfold dec_ at h
  have := Nat.mod_lt (x / N ^ (5 - b)) hN
  generalize x / N ^ (5 - b) % N = d at h this
  cases d with
  | zero => cases h
  | succ d => cases h; omega
/-- a lesson that nobody hears gives the same springs as none -/
theorem skip_eq {T : sp_T} {C : Nat → List Int32} {K : sp_K} {b x d m : Nat} (hd : d < T.1 + 1) (hb : b + 1 + m = 6) (h : ∀ c, c < K.1 → rp_ T (sp_H C K.2.2.2 c) (K.2.1 c) (K.2.2.1 c) (T.1 + 1) (b + 1) (x * (T.1 + 1) + d) = rp_ T (sp_H C K.2.2.2 c) (K.2.1 c) (K.2.2.1 c) (T.1 + 1) (b + 1) (x * (T.1 + 1) + 0)) (j : Nat) (hj : j < (T.1 + 1) ^ m) : wt6 T C K (T.1 + 1) ((x * (T.1 + 1) + d) * (T.1 + 1) ^ m + j) = wt6 T C K (T.1 + 1) ((x * (T.1 + 1) + 0) * (T.1 + 1) ^ m + j) := by
  unfold wt6
  refine sum_cong _ (fun c hc => ?_)
  unfold pt6
  have := rp_ext (T := T) (H := sp_H C K.2.2.2 c) (on := K.2.1 c) (off := K.2.2.1 c) (N := T.1 + 1) (Nat.succ_pos _) (h c hc) m j hj
  rw [hb] at this
  rw [this]

