/-! ===== two points exchanged ===== -/
def sw (a b p : Nat) : Nat := if p = a then b else if p = b then a else p
theorem sw_ab {a b p : Nat} : (p = a ∧ sw a b p = b) ∨ (¬ p = a ∧ p = b ∧ sw a b p = a) ∨ (¬ p = a ∧ ¬ p = b ∧ sw a b p = p) := by
  unfold sw
  by_cases h : p = a
  · rw [if_pos h]; exact Or.inl ⟨h, rfl⟩
  · rw [if_neg h]
    by_cases h2 : p = b
    · rw [if_pos h2]; exact Or.inr (Or.inl ⟨h, h2, rfl⟩)
    · rw [if_neg h2]; exact Or.inr (Or.inr ⟨h, h2, rfl⟩)
theorem sw_sw (a b p : Nat) : sw a b (sw a b p) = p := by
  have h1 := sw_ab (a := a) (b := b) (p := p)
  have h2 := sw_ab (a := a) (b := b) (p := sw a b p)
  omega
theorem sPm_sw {V a b : Nat} (ha : a < V) (hb : b < V) : sPm V (sw a b) := by
  refine ⟨fun u hu => ?_, fun u v _ _ e => ?_, fun p hp => ⟨sw a b p, ?_, sw_sw a b p⟩⟩
  · have := sw_ab (a := a) (b := b) (p := u); omega
  · have := congrArg (sw a b) e
    rw [sw_sw, sw_sw] at this
    exact this
  · have := sw_ab (a := a) (b := b) (p := p); omega
/-- a set with two points exchanged -/
def exN (a b m : Nat) : Nat := if m.testBit a = m.testBit b then m else m ^^^ (2 ^ a ||| 2 ^ b)
theorem dx_t {D P : Prop} [Decidable D] [Decidable P] (h : D ↔ ¬ P) : (decide D ^^ true) = decide P := by
  by_cases g : P
  · rw [decide_eq_true g, decide_eq_false (fun k => (h.mp k) g)]; rfl
  · rw [decide_eq_false g, decide_eq_true (h.mpr g)]; rfl
theorem ex_m3 {a b x y z : Nat} (hab : ¬ a = b) (hxy : ¬ x = y) (hyz : ¬ y = z) (hxz : ¬ x = z) : exN a b (m3 x y z) = m3 (sw a b x) (sw a b y) (sw a b z) := by
  have q : ∀ p, (p = sw a b x ∨ p = sw a b y ∨ p = sw a b z) ↔ (sw a b p = x ∨ sw a b p = y ∨ sw a b p = z) := fun p => by
    have e : ∀ w, p = sw a b w ↔ sw a b p = w := fun w => ⟨fun h => by rw [h, sw_sw], fun h => by rw [← h, sw_sw]⟩
    rw [e, e, e]
  have ta := m3_test x y z a
  have tb := m3_test x y z b
  apply Nat.eq_of_testBit_eq
  intro p
  rw [m3_test (sw a b x)]
  unfold exN
  have s := sw_ab (a := a) (b := b) (p := p)
  have qp := q p
  by_cases h : (m3 x y z).testBit a = (m3 x y z).testBit b
  · rw [if_pos h, m3_test, decide_eq_decide, qp]
    rw [ta, tb, decide_eq_decide] at h
    rcases s with ⟨s1, s2⟩ | ⟨s1, s2, s3⟩ | ⟨s1, s2, s3⟩
    · rw [s2, s1]; exact h
    · rw [s3, s2]; exact h.symm
    · rw [s3]
  · rw [if_neg h, Nat.testBit_xor, Nat.testBit_or, p2_test, p2_test, m3_test]
    have hd : ¬ ((a = x ∨ a = y ∨ a = z) ↔ (b = x ∨ b = y ∨ b = z)) := fun k => h (by rw [ta, tb, decide_eq_decide]; exact k)
    rcases s with ⟨s1, s2⟩ | ⟨s1, s2, s3⟩ | ⟨s1, s2, s3⟩
    · rw [s2] at qp
      rw [show decide (p = a) = true from decide_eq_true s1, Bool.true_or]
      refine dx_t ?_
      rw [qp]
      rw [← s1] at hd
      by_cases g : b = x ∨ b = y ∨ b = z
      · exact ⟨fun k => absurd ⟨fun _ => g, fun _ => k⟩ hd, fun k => absurd g k⟩
      · exact ⟨fun _ => g, fun _ => Classical.byContradiction fun w => hd ⟨fun k => absurd k w, fun k => absurd k g⟩⟩
    · rw [s3] at qp
      rw [show decide (p = b) = true from decide_eq_true s2, Bool.or_true]
      refine dx_t ?_
      rw [qp]
      rw [← s2] at hd
      by_cases g : a = x ∨ a = y ∨ a = z
      · exact ⟨fun k => absurd ⟨fun _ => k, fun _ => g⟩ hd, fun k => absurd g k⟩
      · exact ⟨fun _ => g, fun _ => Classical.byContradiction fun w => hd ⟨fun k => absurd k g, fun k => absurd k w⟩⟩
    · rw [s3] at qp
      rw [decide_eq_false s1, decide_eq_false s2, Bool.or_self, Bool.xor_false, decide_eq_decide]
      exact qp.symm
theorem u72 : bUp 0 am_m72.1 = true := by decide +kernel
theorem k_exch {d m x y : Nat} {hp : amH} {R : xQ} {s a b : Int32} (hH : bHk 84 bTT hp) (hs : s.toInt = (m : Int)) (hm : m < 32768) (ha : a.toInt = (x : Int)) (hb : b.toInt = (y : Int)) (hx : x < 15) (hy : y < 15) (hR : ∀ r : Int32, r.toInt = ((exN x y m : Nat) : Int) → R (.inl (some (.int r))) hp) : xK (d + 1) 72 [.int s, .int a, .int b] hp R := by
  refine xin (M := am_m72) rfl rfl rfl ?_
  refine xild 1 ⟨u72, _, rfl⟩ rfl rfl ?_
  refine xild 2 ⟨u72, _, rfl⟩ rfl rfl ?_
  refine xcallS 5 [.int _, .int _] [] hH ⟨u72, _, rfl⟩ rfl rfl rfl rfl rfl (k_has hs hm ha hx (fun z2 h2 => ⟨_, rfl, ?_⟩))
  refine xild 6 ⟨u72, _, rfl⟩ rfl rfl ?_
  refine xild 7 ⟨u72, _, rfl⟩ rfl rfl ?_
  refine xcallS 10 [.int _, .int _] [.int _] hH ⟨u72, _, rfl⟩ rfl rfl rfl rfl rfl (k_has hs hm hb hy (fun z7 h7 => ⟨_, rfl, ?_⟩))
  have tt : m.testBit x = m.testBit y ↔ z2.toInt = z7.toInt := by
    rw [h2, h7]
    cases m.testBit x <;> cases m.testBit y <;> simp
  refine xcmp_ne 13 ⟨u72, _, rfl⟩ rfl (fun c10 => ?_) (fun c10 => ?_)
  · refine xild 18 ⟨u72, _, rfl⟩ rfl rfl ?_
    refine xcst 19 (1) ⟨u72, _, rfl⟩ rfl (by decide) (fun z18 h18 => ?_)
    refine xild 20 ⟨u72, _, rfl⟩ rfl rfl ?_
    refine xshl 21 ⟨u72, _, rfl⟩ rfl ?_
    refine xcst 22 (1) ⟨u72, _, rfl⟩ rfl (by decide) (fun z21 h21 => ?_)
    refine xild 23 ⟨u72, _, rfl⟩ rfl rfl ?_
    refine xshl 24 ⟨u72, _, rfl⟩ rfl ?_
    refine xor_ 25 ⟨u72, _, rfl⟩ rfl ?_
    refine xxor 26 ⟨u72, _, rfl⟩ rfl ?_
    have w1 := i_shl h18 ha hx
    have w2 := i_shl h21 hb hy
    have w3 := i_or w1.1 w2.1 w1.2 w2.2
    exact xret ⟨u72, _, rfl⟩ rfl (hR _ (by unfold exN; rw [if_neg (fun k => c10 (tt.mp k))]; exact (i_xor hs w3.1 hm w3.2).1))
  · refine xild 14 ⟨u72, _, rfl⟩ rfl rfl ?_
    refine xgoto ⟨u72, _, rfl⟩ ?_
    exact xret ⟨u72, _, rfl⟩ rfl (hR _ (by unfold exN; rw [if_pos (tt.mpr c10)]; exact hs))
