/-! ===== triples put and taken as sets of points (pure) ===== -/
def mS (m : Nat) : Nat := sm (fun b => iv (m.testBit b = true) * b) 15
abbrev in2 (m u v : Nat) : Prop := ¬ u = v ∧ m.testBit u = true ∧ m.testBit v = true
def uPut (T : sT) (m : Nat) : sT := fun u v => if in2 m u v then ((mS m : Nat) : Int) - u - v else T u v
def uTake (T : sT) (m : Nat) : sT := fun u v => if in2 m u v then -1 else T u v
theorem sm_oneb {x : Nat} (hx : x < 15) : sm (fun b => iv (b = x) * b) 15 = x :=
  sm_one hx (by rw [iv_t rfl, Nat.one_mul]) (fun i _ g => by rw [iv_f g, Nat.zero_mul])
theorem mS_3 {x y z : Nat} (hx : x < 15) (hy : y < 15) (hz : z < 15) (hxy : ¬ x = y) (hyz : ¬ y = z) (hxz : ¬ x = z) : mS (m3 x y z) = x + y + z := by
  unfold mS
  have e : sm (fun b => iv ((m3 x y z).testBit b = true) * b) 15 = sm (fun b => iv (b = x) * b + iv (b = y) * b + iv (b = z) * b) 15 := sm_ext 15 (fun b _ => by
    have q : (m3 x y z).testBit b = true ↔ (b = x ∨ b = y ∨ b = z) := by rw [m3_test]; exact decide_eq_true_iff
    by_cases h1 : b = x
    · rw [iv_t h1, iv_f (show ¬ b = y by omega), iv_f (show ¬ b = z by omega), iv_t (q.mpr (Or.inl h1))]; omega
    · by_cases h2 : b = y
      · rw [iv_f h1, iv_t h2, iv_f (show ¬ b = z by omega), iv_t (q.mpr (Or.inr (Or.inl h2)))]; omega
      · by_cases h3 : b = z
        · rw [iv_f h1, iv_f h2, iv_t h3, iv_t (q.mpr (Or.inr (Or.inr h3)))]; omega
        · rw [iv_f h1, iv_f h2, iv_f h3, iv_f (fun g => by have := q.mp g; omega)]; omega)
  rw [e, sm_add, sm_add, sm_oneb hx, sm_oneb hy, sm_oneb hz]
theorem in2_3 {x y z u v : Nat} : in2 (m3 x y z) u v ↔ sPr x y z u v := by
  unfold in2
  rw [m3_test, m3_test, decide_eq_true_iff, decide_eq_true_iff]
theorem uPut_3 (T : sT) {x y z : Nat} (hx : x < 15) (hy : y < 15) (hz : z < 15) (hxy : ¬ x = y) (hyz : ¬ y = z) (hxz : ¬ x = z) : uPut T (m3 x y z) = sPut T x y z := by
  funext u v
  unfold uPut sPut
  rw [mS_3 hx hy hz hxy hyz hxz]
  by_cases h : sPr x y z u v
  · rw [if_pos h, if_pos (in2_3.mpr h)]
    omega
  · rw [if_neg h, if_neg (fun g => h (in2_3.mp g))]
theorem uTake_3 (T : sT) {x y z : Nat} : uTake T (m3 x y z) = sTake T x y z := by
  funext u v
  unfold uTake sTake
  by_cases h : sPr x y z u v
  · rw [if_pos h, if_pos (in2_3.mpr h)]
  · rw [if_neg h, if_neg (fun g => h (in2_3.mp g))]
def uTs (T : sT) : List Nat → sT
  | [] => T
  | m :: r => uTs (uTake T m) r
def uPs (T : sT) : List Nat → sT
  | [] => T
  | m :: r => uPs (uPut T m) r
/-- a triple of the system; one that fits -/
abbrev triM (T : sT) (m : Nat) : Prop := ∃ x y z : Nat, x < y ∧ y < z ∧ m = m3 x y z ∧ T x y = (z : Int)
abbrev freM (V : Nat) (T : sT) (m : Nat) : Prop := ∃ x y z : Nat, x < y ∧ y < z ∧ z < V ∧ m = m3 x y z ∧ sFree T x y z
abbrev sh1 (a b : Nat) : Prop := ∀ u v, in2 a u v → ¬ in2 b u v
def prw : List Nat → Prop
  | [] => True
  | a :: r => (∀ b, b ∈ r → sh1 a b) ∧ prw r
def tkOk (T : sT) : List Nat → Prop
  | [] => True
  | m :: r => triM T m ∧ tkOk (uTake T m) r
def ptOk (V : Nat) (T : sT) : List Nat → Prop
  | [] => True
  | m :: r => freM V T m ∧ ptOk V (uPut T m) r
theorem tkOk_of : ∀ {L : List Nat} {T : sT}, (∀ m, m ∈ L → triM T m) → prw L → tkOk T L
  | [], _, _, _ => trivial
  | m :: r, T, h, p => ⟨h m List.mem_cons_self, tkOk_of (fun b hb => by
      obtain ⟨x, y, z, h1, h2, rfl, e⟩ := h b (List.mem_cons_of_mem _ hb)
      refine ⟨x, y, z, h1, h2, rfl, ?_⟩
      unfold uTake
      rw [if_neg (fun g => p.1 _ hb x y g (in2_3.mpr ⟨by omega, by simp, by simp⟩))]
      exact e) p.2⟩
theorem ptOk_of {V : Nat} : ∀ {L : List Nat} {T : sT}, (∀ m, m ∈ L → freM V T m) → prw L → ptOk V T L
  | [], _, _, _ => trivial
  | m :: r, T, h, p => ⟨h m List.mem_cons_self, ptOk_of (fun b hb => by
      obtain ⟨x, y, z, h1, h2, h3, rfl, f1, f2, f3⟩ := h b (List.mem_cons_of_mem _ hb)
      have k : ∀ u v, in2 (m3 x y z) u v → uPut T m u v = T u v := fun u v q => by
        unfold uPut
        rw [if_neg (fun g => p.1 _ hb u v g q)]
      refine ⟨x, y, z, h1, h2, h3, rfl, ?_, ?_, ?_⟩
      · rw [k x y (in2_3.mpr ⟨by omega, by simp, by simp⟩)]; exact f1
      · rw [k y z (in2_3.mpr ⟨by omega, by simp, by simp⟩)]; exact f2
      · rw [k x z (in2_3.mpr ⟨by omega, by simp, by simp⟩)]; exact f3) p.2⟩
theorem uTs_none {u v : Nat} : ∀ {L : List Nat} {T : sT}, T u v = -1 → uTs T L u v = -1
  | [], _, h => h
  | m :: r, T, h => uTs_none (L := r) (by
      unfold uTake
      split
      · rfl
      · exact h)
theorem uTs_in {u v m : Nat} : ∀ {L : List Nat} {T : sT}, m ∈ L → in2 m u v → uTs T L u v = -1
  | [], _, hm, _ => absurd hm (by simp)
  | b :: r, T, hm, h => by
      rcases List.mem_cons.mp hm with rfl | hm
      · exact uTs_none (L := r) (by unfold uTake; rw [if_pos h])
      · exact uTs_in (L := r) hm h
theorem uTs_out {u v : Nat} : ∀ {L : List Nat} {T : sT}, (∀ m, m ∈ L → ¬ in2 m u v) → uTs T L u v = T u v
  | [], _, _ => rfl
  | b :: r, T, h => by
      have e : uTs T (b :: r) u v = uTake T b u v := uTs_out (L := r) (T := uTake T b) (fun m hm => h m (List.mem_cons_of_mem _ hm))
      rw [e]
      unfold uTake
      rw [if_neg (h b List.mem_cons_self)]
theorem sOk_uTake {V m : Nat} {T : sT} (hT : sOk V T) (h : triM T m) : sOk V (uTake T m) := by
  obtain ⟨x, y, z, h1, h2, rfl, e⟩ := h
  rw [uTake_3]
  exact sOk_take hT e
theorem sOk_uPut {V m : Nat} {T : sT} (hT : sOk V T) (h : freM V T m) : sOk V (uPut T m) := by
  obtain ⟨x, y, z, h1, h2, h3, rfl, f⟩ := h
  have hV := hT.2.1
  rw [uPut_3 T (by omega) (by omega) (by omega) (by omega) (by omega) (by omega)]
  exact sOk_put hT (by omega) (by omega) h3 (by omega) (by omega) (by omega) f
theorem sOk_uTs {V : Nat} : ∀ {L : List Nat} {T : sT}, sOk V T → tkOk T L → sOk V (uTs T L)
  | [], _, h, _ => h
  | m :: r, T, h, k => sOk_uTs (L := r) (sOk_uTake h k.1) k.2
theorem sOk_uPs {V : Nat} : ∀ {L : List Nat} {T : sT}, sOk V T → ptOk V T L → sOk V (uPs T L)
  | [], _, h, _ => h
  | m :: r, T, h, k => sOk_uPs (L := r) (sOk_uPut h k.1) k.2
theorem uTs_app : ∀ (A B : List Nat) (T : sT), uTs T (A ++ B) = uTs (uTs T A) B
  | [], _, _ => rfl
  | m :: r, B, T => uTs_app r B (uTake T m)
theorem uPs_app : ∀ (A B : List Nat) (T : sT), uPs T (A ++ B) = uPs (uPs T A) B
  | [], _, _ => rfl
  | m :: r, B, T => uPs_app r B (uPut T m)
theorem tkOk_app : ∀ {A B : List Nat} {T : sT}, tkOk T (A ++ B) → tkOk T A ∧ tkOk (uTs T A) B
  | [], _, _, h => ⟨trivial, h⟩
  | m :: r, B, T, h => by
      obtain ⟨h1, h2⟩ := h
      obtain ⟨h3, h4⟩ := tkOk_app (A := r) h2
      exact ⟨⟨h1, h3⟩, h4⟩
theorem ptOk_app {V : Nat} : ∀ {A B : List Nat} {T : sT}, ptOk V T (A ++ B) → ptOk V T A ∧ ptOk V (uPs T A) B
  | [], _, _, h => ⟨trivial, h⟩
  | m :: r, B, T, h => by
      obtain ⟨h1, h2⟩ := h
      obtain ⟨h3, h4⟩ := ptOk_app (A := r) h2
      exact ⟨⟨h1, h3⟩, h4⟩
/-- two points that a triple of the list has -/
theorem gt_app {α : Type} {A : List α} {x d : α} {B : List α} : (A ++ x :: B).getD A.length d = x := by
  rw [List.getD_eq_getElem?_getD, List.getElem?_append_right (Nat.le_refl _), Nat.sub_self]
  rfl
