/-! ===== sums (pure) ===== -/
def sm (f : Nat → Nat) : Nat → Nat
  | 0 => 0
  | n + 1 => sm f n + f n
theorem sm_ext {f g : Nat → Nat} : ∀ n, (∀ i, i < n → f i = g i) → sm f n = sm g n
  | 0, _ => rfl
  | n + 1, h => by
    show sm f n + f n = sm g n + g n
    rw [sm_ext n (fun i hi => h i (by omega)), h n (by omega)]
theorem sm_add (f g : Nat → Nat) : ∀ n, sm (fun i => f i + g i) n = sm f n + sm g n
  | 0 => rfl
  | n + 1 => by
    show sm (fun i => f i + g i) n + (f n + g n) = sm f n + f n + (sm g n + g n)
    rw [sm_add f g n]
    omega
theorem sm_0 : ∀ n, sm (fun _ => 0) n = 0
  | 0 => rfl
  | n + 1 => by
    show sm (fun _ => 0) n + 0 = 0
    rw [sm_0 n]
theorem sm_none {f : Nat → Nat} {n : Nat} (h : ∀ i, i < n → f i = 0) : sm f n = 0 := (sm_ext n h).trans (sm_0 n)
theorem sm_mul (c : Nat) (f : Nat → Nat) : ∀ n, sm (fun i => c * f i) n = c * sm f n
  | 0 => rfl
  | n + 1 => by
    show sm (fun i => c * f i) n + c * f n = c * (sm f n + f n)
    rw [sm_mul c f n, Nat.mul_add]
theorem sm_le {f g : Nat → Nat} : ∀ n, (∀ i, i < n → f i ≤ g i) → sm f n ≤ sm g n
  | 0, _ => Nat.le_refl _
  | n + 1, h => Nat.add_le_add (sm_le n (fun i hi => h i (by omega))) (h n (by omega))
theorem sm_const (c : Nat) : ∀ n, sm (fun _ => c) n = n * c
  | 0 => by simp [sm]
  | n + 1 => by
    show sm (fun _ => c) n + c = (n + 1) * c
    rw [sm_const c n, Nat.add_mul]
    omega
theorem sm_swap (f : Nat → Nat → Nat) (m : Nat) : ∀ n, sm (fun i => sm (fun j => f i j) m) n = sm (fun j => sm (fun i => f i j) n) m
  | 0 => (sm_0 m).symm
  | n + 1 => by
    show sm (fun i => sm (fun j => f i j) m) n + sm (fun j => f n j) m = sm (fun j => sm (fun i => f i j) n + f n j) m
    rw [sm_swap f m n, sm_add]
/-- one index alone counts -/
theorem sm_one {f : Nat → Nat} {n k c : Nat} (hk : k < n) (h : f k = c) (h0 : ∀ i, i < n → ¬ i = k → f i = 0) : sm f n = c := by
  induction n with
  | zero => omega
  | succ n ih =>
    show sm f n + f n = c
    by_cases e : k = n
    · subst e
      rw [h, sm_none (fun i hi => h0 i (by omega) (by omega))]
      omega
    · rw [ih (by omega) (fun i hi => h0 i (by omega)), h0 n (by omega) (fun z => e z.symm)]
      rfl
theorem sm_split (f : Nat → Nat) (a : Nat) : ∀ b, sm f (a + b) = sm f a + sm (fun j => f (a + j)) b
  | 0 => rfl
  | b + 1 => by
    show sm f (a + b) + f (a + b) = sm f a + (sm (fun j => f (a + j)) b + f (a + b))
    rw [sm_split f a b]
    omega
theorem sm_prod (f : Nat → Nat) (b : Nat) : ∀ a, sm f (a * b) = sm (fun i => sm (fun j => f (i * b + j)) b) a
  | 0 => by rw [Nat.zero_mul]; rfl
  | a + 1 => by
    show sm f ((a + 1) * b) = sm (fun i => sm (fun j => f (i * b + j)) b) a + sm (fun j => f (a * b + j)) b
    rw [Nat.add_mul, Nat.one_mul, sm_split, sm_prod f b a]
/-- 1 where p holds -/
def iv (p : Prop) [Decidable p] : Nat := if p then 1 else 0
theorem iv_t {p : Prop} [Decidable p] (h : p) : iv p = 1 := if_pos h
theorem iv_f {p : Prop} [Decidable p] (h : ¬ p) : iv p = 0 := if_neg h
theorem iv_eq {p q : Prop} [Decidable p] [Decidable q] (h : p ↔ q) : iv p = iv q := by
  by_cases hp : p
  · rw [iv_t hp, iv_t (h.mp hp)]
  · rw [iv_f hp, iv_f (fun z => hp (h.mpr z))]
theorem iv_le {p : Prop} [Decidable p] : iv p ≤ 1 := by
  unfold iv
  split <;> omega
theorem iv_or {p q : Prop} [Decidable p] [Decidable q] (h : ¬ (p ∧ q)) : iv (p ∨ q) = iv p + iv q := by
  by_cases hp : p
  · rw [iv_t (Or.inl hp), iv_t hp, iv_f (fun hq => h ⟨hp, hq⟩)]
  · by_cases hq : q
    · rw [iv_t (Or.inr hq), iv_f hp, iv_t hq]
    · rw [iv_f (fun z => z.elim hp hq), iv_f hp, iv_f hq]
theorem fL_sm {B : Nat → Bool} : ∀ n, (fL B n).length = sm (fun i => iv (B i = true)) n
  | 0 => rfl
  | n + 1 => by
    show (fL B (n + 1)).length = sm (fun i => iv (B i = true)) n + iv (B n = true)
    by_cases h : B n = true
    · rw [fL_add h, List.length_append, List.length_singleton, fL_sm n, iv_t h]
    · rw [fL_skip h, fL_sm n, iv_f h]
      rfl
/-! sums over three and four -/
def s3 (n : Nat) (f : Nat → Nat → Nat → Nat) : Nat := sm (fun i => sm (fun j => sm (fun k => f i j k) n) n) n
theorem s3_ext {n : Nat} {f g : Nat → Nat → Nat → Nat} (h : ∀ i j k, i < n → j < n → k < n → f i j k = g i j k) : s3 n f = s3 n g :=
  sm_ext n (fun i hi => sm_ext n (fun j hj => sm_ext n (fun k hk => h i j k hi hj hk)))
theorem s3_add {n : Nat} (f g : Nat → Nat → Nat → Nat) : s3 n (fun i j k => f i j k + g i j k) = s3 n f + s3 n g := by
  unfold s3
  rw [← sm_add]
  refine sm_ext n (fun i _ => ?_)
  rw [← sm_add]
  exact sm_ext n (fun j _ => sm_add _ _ n)
theorem s3_12 {n : Nat} (f : Nat → Nat → Nat → Nat) : s3 n (fun i j k => f j i k) = s3 n f := sm_swap _ n n
theorem s3_23 {n : Nat} (f : Nat → Nat → Nat → Nat) : s3 n (fun i j k => f i k j) = s3 n f := sm_ext n (fun i _ => sm_swap _ n n)
def s4 (n : Nat) (f : Nat → Nat → Nat → Nat → Nat) : Nat := sm (fun i => s3 n (fun j k l => f i j k l)) n
theorem s4_ext {n : Nat} {f g : Nat → Nat → Nat → Nat → Nat} (h : ∀ i j k l, i < n → j < n → k < n → l < n → f i j k l = g i j k l) : s4 n f = s4 n g :=
  sm_ext n (fun i hi => s3_ext (fun j k l hj hk hl => h i j k l hi hj hk hl))
theorem s4_add {n : Nat} (f g : Nat → Nat → Nat → Nat → Nat) : s4 n (fun i j k l => f i j k l + g i j k l) = s4 n f + s4 n g := by
  unfold s4
  rw [← sm_add]
  exact sm_ext n (fun i _ => s3_add _ _)
theorem s4_12 {n : Nat} (f : Nat → Nat → Nat → Nat → Nat) : s4 n (fun i j k l => f j i k l) = s4 n f := sm_swap _ n n
theorem s4_23 {n : Nat} (f : Nat → Nat → Nat → Nat → Nat) : s4 n (fun i j k l => f i k j l) = s4 n f := sm_ext n (fun i _ => s3_12 (fun j k l => f i j k l))
theorem s4_34 {n : Nat} (f : Nat → Nat → Nat → Nat → Nat) : s4 n (fun i j k l => f i j l k) = s4 n f := sm_ext n (fun i _ => s3_23 (fun j k l => f i j k l))
