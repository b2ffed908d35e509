/-! ===== how many quadrilaterals (pure) ===== -/
theorem nmF_inv {T : sT} {m : Nat} : ∀ (f k t : Nat), nmF T m k f = (t : Int) → k ≤ t ∧ t < k + f ∧ mk3 T ((trL T 225).getD t 0) = m
  | 0, k, t, h => by unfold nmF at h; omega
  | f + 1, k, t, h => by
    unfold nmF at h
    split at h
    · next e =>
      have : k = t := by omega
      subst this
      exact ⟨Nat.le_refl _, by omega, e⟩
    · obtain ⟨g1, g2, g3⟩ := nmF_inv f (k + 1) t h
      exact ⟨by omega, by omega, g3⟩
theorem nm_inv {T : sT} {m t : Nat} (h : nmT T m = (t : Int)) : t < (trL T 225).length ∧ mN T t = m := by
  obtain ⟨-, g2, g3⟩ := nmF_inv _ _ _ h
  exact ⟨by omega, g3⟩
theorem X4_meets {V : Nat} {T : sT} (hT : sOk V T) {i j k l : Nat} (h : X4 T i j k l) : ¬ mN T i &&& mN T j = 0 := by
  obtain ⟨p, p1, p2⟩ := X4_meet hT h
  intro z
  have : (mN T i &&& mN T j).testBit p = true := by
    rw [Nat.testBit_and]
    unfold onL at p1 p2
    rw [p1, p2]
    rfl
  rw [z, Nat.zero_testBit] at this
  cases this
/-- a number that begins a quadrilateral, and its fourth triple -/
theorem qdB_X4 {V : Nat} {T : sT} (hT : sOk V T) {i j k l : Nat} (hi : i < 35) (hj : j < 35) (hk : k < 35) : (qdB T (i * 1225 + (j * 35 + k)) = true ∧ nmT T (qR T (i * 1225 + (j * 35 + k))) = (l : Int)) ↔ (X4 T i j k l ∧ i < j ∧ j < k ∧ k < l) := by
  have e1 : (i * 1225 + (j * 35 + k)) / 1225 = i := by omega
  have e2 : (i * 1225 + (j * 35 + k)) / 35 % 35 = j := by omega
  have e3 : (i * 1225 + (j * 35 + k)) % 35 = k := by omega
  unfold qdB
  rw [decide_eq_true_iff]
  unfold qR
  rw [e1, e2, e3]
  constructor
  · rintro ⟨⟨a1, a2, a3, a4, a5⟩, a6⟩
    obtain ⟨b1, b2⟩ := nm_inv a6
    exact ⟨⟨⟨by omega, by omega, by omega, b1⟩, ⟨by omega, by omega, by omega, by omega, by omega, by omega⟩, b2.symm⟩, a1, a2, by omega⟩
  · rintro ⟨h, a1, a2, a3⟩
    have m := X4_meets hT h
    obtain ⟨⟨b1, b2, b3, b4⟩, -, x⟩ := h
    have e : nmT T (mN T i ^^^ mN T j ^^^ mN T k) = (l : Int) := by rw [x]; exact nm_mk hT b4
    exact ⟨⟨a1, a2, b3, m, by omega⟩, e⟩
/-- sums over the quadrilaterals' numbers -/
theorem qd_sum {V : Nat} {T : sT} (hT : sOk V T) (g : Nat → Nat → Nat → Nat → Bool) : sm (fun n => iv (qdB T n = true ∧ g (n / 1225) (n / 35 % 35) (n % 35) (nmT T (qR T n)).toNat = true)) 42875 = s4 35 (fun i j k l => iv ((X4 T i j k l ∧ i < j ∧ j < k ∧ k < l) ∧ g i j k l = true)) := by
  have l35 := trL_35 hT 225
  rw [show 42875 = 35 * 1225 by rfl, sm_prod]
  unfold s4 s3
  refine sm_ext 35 (fun i hi => ?_)
  rw [show 1225 = 35 * 35 by rfl, sm_prod]
  refine sm_ext 35 (fun j hj => sm_ext 35 (fun k hk => ?_))
  rw [show 35 * 35 = 1225 by rfl]
  have e1 : (i * 1225 + (j * 35 + k)) / 1225 = i := by omega
  have e2 : (i * 1225 + (j * 35 + k)) / 35 % 35 = j := by omega
  have e3 : (i * 1225 + (j * 35 + k)) % 35 = k := by omega
  rw [e1, e2, e3]
  by_cases h : qdB T (i * 1225 + (j * 35 + k)) = true
  · have h2 := of_decide_eq_true h
    rcases nm_lt (T := T) (qR T (i * 1225 + (j * 35 + k))) with z | ⟨t, t1, t2⟩
    · omega
    · have q := (qdB_X4 hT (l := t) hi hj hk).mp ⟨h, t2⟩
      rw [t2, Int.toNat_natCast]
      refine (sm_one (k := t) (by omega) (iv_eq ⟨fun z => ⟨h, z.2⟩, fun z => ⟨q, z.2⟩⟩) (fun l _ hl => iv_f (fun z => hl ?_))).symm
      have := (qdB_X4 hT hi hj hk).mpr z.1
      omega
  · rw [iv_f (fun z => h z.1)]
    exact (sm_none (fun l _ => iv_f (fun z => h ((qdB_X4 hT hi hj hk).mpr z.1).1))).symm
theorem qd_len {V : Nat} {T : sT} (hT : sOk V T) : (fL (qdB T) 42875).length = s4 35 (fun i j k l => iv (X4 T i j k l ∧ i < j ∧ j < k ∧ k < l)) := by
  rw [fL_sm]
  have := qd_sum hT (fun _ _ _ _ => true)
  rw [sm_ext 42875 (fun n _ => iv_eq (q := qdB T n = true ∧ true = true) ⟨fun z => ⟨z, rfl⟩, fun z => z.1⟩), this]
  exact s4_ext (fun i j k l _ _ _ _ => iv_eq ⟨fun z => z.1, fun z => ⟨z, rfl⟩⟩)
/-- with what is said of each triple: 24 points with two beside them for each quadrilateral -/
theorem qd_24 {V : Nat} {T : sT} (hT : sOk V T) (g : Nat → Bool) : 24 * sm (fun n => iv (qdB T n = true ∧ (g (n / 1225) && (g (n / 35 % 35) && (g (n % 35) && g (nmT T (qR T n)).toNat))) = true)) 42875 = s3 15 (fun p a c => iv (Pa T p a c ∧ g (li T p a) = true ∧ g (li T p c) = true ∧ g (li T a c) = true ∧ g (li T (T p a).toNat (T p c).toNat) = true)) := by
  obtain ⟨s1, s2, s3', s4'⟩ := X4_sym T
  have hs : sym4 (fun i j k l => X4 T i j k l ∧ g i = true ∧ g j = true ∧ g k = true ∧ g l = true) := ⟨fun i j k l h => ⟨s1 _ _ _ _ h.1, h.2.2.1, h.2.1, h.2.2.2.1, h.2.2.2.2⟩, fun i j k l h => ⟨s2 _ _ _ _ h.1, h.2.1, h.2.2.2.1, h.2.2.1, h.2.2.2.2⟩, fun i j k l h => ⟨s3' _ _ _ _ h.1, h.2.1, h.2.2.1, h.2.2.2.2, h.2.2.2.1⟩, fun i j k l h => s4' _ _ _ _ h.1⟩
  have A := Pa_sum hT g
  have B := sym_24 (n := 35) hs
  have C : sm (fun n => iv (qdB T n = true ∧ (g (n / 1225) && (g (n / 35 % 35) && (g (n % 35) && g (nmT T (qR T n)).toNat))) = true)) 42875 = s4 35 (fun i j k l => iv ((X4 T i j k l ∧ i < j ∧ j < k ∧ k < l) ∧ (g i && (g j && (g k && g l))) = true)) := qd_sum hT (fun i j k l => g i && (g j && (g k && g l)))
  have D : s4 35 (fun i j k l => iv ((X4 T i j k l ∧ i < j ∧ j < k ∧ k < l) ∧ (g i && (g j && (g k && g l))) = true)) = s4 35 (fun i j k l => iv ((X4 T i j k l ∧ g i = true ∧ g j = true ∧ g k = true ∧ g l = true) ∧ i < j ∧ j < k ∧ k < l)) := s4_ext (fun i j k l _ _ _ _ => iv_eq (by
    simp only [Bool.and_eq_true]
    exact ⟨fun z => ⟨⟨z.1.1, z.2⟩, z.1.2⟩, fun z => ⟨⟨z.1.1, z.2⟩, z.1.2⟩⟩))
  exact (congrArg (fun x => 24 * x) (C.trans D)).trans (B.symm.trans A.symm)
theorem sm_eq1 {n k : Nat} (h : k < n) : sm (fun i => iv (i = k)) n = 1 := sm_one h (iv_t rfl) (fun i _ g => iv_f g)
/-- points with two beside them: 15 times 14 times 12 at most -/
theorem Pa_2520 {V : Nat} {T : sT} (hT : sOk V T) : s3 15 (fun p a c => iv (Pa T p a c)) ≤ 2520 := by
  have hV := hT.2.1
  have h1 : ∀ p a, p < 15 → a < 15 → sm (fun c => iv (Pa T p a c)) 15 ≤ 12 * iv (¬ a = p) := by
    intro p a hp ha
    by_cases e : T p a = -1
    · rw [sm_none (fun c _ => iv_f (fun z => z.1 e))]
      exact Nat.zero_le _
    · obtain ⟨b, eb, eb2, l1, l2, l3, d1, d2, d3, -⟩ := li_s hT e
      have s : sm (fun c => iv (Pa T p a c) + iv (c = p) + iv (c = a) + iv (c = b)) 15 ≤ sm (fun _ => 1) 15 := sm_le 15 (fun c _ => by
        by_cases c1 : c = p
        · rw [iv_f (fun z => by obtain ⟨-, z2, -⟩ := z; obtain ⟨-, -, -, -, -, -, z3, -⟩ := li_s hT z2; omega), iv_t c1, iv_f (by omega), iv_f (by omega)]; omega
        · by_cases c2 : c = a
          · rw [iv_f (fun z => by obtain ⟨-, -, z2, -⟩ := z; obtain ⟨-, -, -, -, -, -, z3, -⟩ := li_s hT z2; omega), iv_f c1, iv_t c2, iv_f (by omega)]; omega
          · by_cases c3 : c = b
            · rw [iv_f (fun z => by obtain ⟨-, -, -, z2, -⟩ := z; omega), iv_f c1, iv_f c2, iv_t c3]; omega
            · have := iv_le (p := Pa T p a c)
              rw [iv_f c1, iv_f c2, iv_f c3]; omega)
      rw [sm_add, sm_add, sm_add, sm_eq1 (by omega), sm_eq1 (by omega), sm_eq1 (by omega), sm_const] at s
      rw [iv_t (by omega)]
      omega
  have h2 : ∀ p, p < 15 → sm (fun a => sm (fun c => iv (Pa T p a c)) 15) 15 ≤ 168 := by
    intro p hp
    have s := sm_le (f := fun a => sm (fun c => iv (Pa T p a c)) 15) (g := fun a => 12 * iv (¬ a = p)) 15 (fun a ha => h1 p a hp ha)
    rw [sm_mul] at s
    have t : sm (fun a => iv (¬ a = p) + iv (a = p)) 15 = sm (fun _ => 1) 15 := sm_ext 15 (fun a _ => by
      by_cases e : a = p
      · rw [iv_f (fun z => z e), iv_t e]
      · rw [iv_t e, iv_f e])
    rw [sm_add, sm_eq1 hp, sm_const] at t
    omega
  have s := sm_le (f := fun p => sm (fun a => sm (fun c => iv (Pa T p a c)) 15) 15) (g := fun _ => 168) 15 h2
  rw [sm_const] at s
  exact s
/-- 105 quadrilaterals at most -/
theorem q105 {V : Nat} {T : sT} (hT : sOk V T) : (fL (qdB T) 42875).length ≤ 105 := by
  have a := qd_24 hT (fun _ => true)
  have b := Pa_2520 hT
  have c : s3 15 (fun p a c => iv (Pa T p a c ∧ true = true ∧ true = true ∧ true = true ∧ true = true)) = s3 15 (fun p a c => iv (Pa T p a c)) := s3_ext (fun p a c _ _ _ => iv_eq ⟨fun z => z.1, fun z => ⟨z, rfl, rfl, rfl, rfl⟩⟩)
  have d : sm (fun n => iv (qdB T n = true ∧ (true && (true && (true && true))) = true)) 42875 = (fL (qdB T) 42875).length := by
    rw [fL_sm]
    exact sm_ext 42875 (fun n _ => iv_eq ⟨fun z => z.1, fun z => ⟨z, rfl⟩⟩)
  rw [c, d] at a
  omega
