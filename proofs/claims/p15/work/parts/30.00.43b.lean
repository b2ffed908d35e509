/-! ===== points of a set counted; pairs that no triple covers counted ===== -/
def pq (m : Nat) : Nat := m % 2 + m / 2 % 2 + m / 4 % 2 + m / 8 % 2 + m / 16 % 2 + m / 32 % 2 + m / 64 % 2 + m / 128 % 2 + m / 256 % 2 + m / 512 % 2 + m / 1024 % 2 + m / 2048 % 2 + m / 4096 % 2 + m / 8192 % 2 + m / 16384 % 2
def bmOk (i : Nat) : Bool := Nat.beq (bcM i) (pq i)
theorem bmk_0 : (List.range 4096).all (fun i => bmOk (i + 0)) = true := by decide +kernel
theorem bmk_1 : (List.range 4096).all (fun i => bmOk (i + 4096)) = true := by decide +kernel
theorem bmk_2 : (List.range 4096).all (fun i => bmOk (i + 8192)) = true := by decide +kernel
theorem bmk_3 : (List.range 4096).all (fun i => bmOk (i + 12288)) = true := by decide +kernel
theorem bmk_4 : (List.range 4096).all (fun i => bmOk (i + 16384)) = true := by decide +kernel
theorem bmk_5 : (List.range 4096).all (fun i => bmOk (i + 20480)) = true := by decide +kernel
theorem bmk_6 : (List.range 4096).all (fun i => bmOk (i + 24576)) = true := by decide +kernel
theorem bmk_7 : (List.range 4096).all (fun i => bmOk (i + 28672)) = true := by decide +kernel
theorem bmk_all {i : Nat} (h : i < 32768) : bmOk i = true := by
  have key : ∀ a : Nat, (List.range 4096).all (fun i => bmOk (i + a)) = true → a ≤ i → i < a + 4096 → bmOk i = true := by
    intro a ha h1 h2
    have := List.all_eq_true.mp ha (i - a) (List.mem_range.mpr (by omega))
    rwa [Nat.sub_add_cancel h1] at this
  by_cases h0 : i < 4096
  · exact key 0 bmk_0 (by omega) (by omega)
  by_cases h1 : i < 8192
  · exact key 4096 bmk_1 (by omega) (by omega)
  by_cases h2 : i < 12288
  · exact key 8192 bmk_2 (by omega) (by omega)
  by_cases h3 : i < 16384
  · exact key 12288 bmk_3 (by omega) (by omega)
  by_cases h4 : i < 20480
  · exact key 16384 bmk_4 (by omega) (by omega)
  by_cases h5 : i < 24576
  · exact key 20480 bmk_5 (by omega) (by omega)
  by_cases h6 : i < 28672
  · exact key 24576 bmk_6 (by omega) (by omega)
  by_cases h7 : i < 32768
  · exact key 28672 bmk_7 (by omega) (by omega)
  omega
theorem bcF_pq {i : Nat} (h : i < 32768) : (bcF (Int32.ofNat i)).toInt = ((pq i : Nat) : Int) := by
  rw [bcF_m h, Nat.eq_of_beq_eq_true (bmk_all h)]
theorem bc_pq {m : Nat} (h : m < 32768) : bcN m = ((pq m : Nat) : Int) := bcF_pq h
theorem pq_sm (m : Nat) : pq m = sm (fun j => m / 2 ^ j % 2) 15 := by
  simp [sm, pq]
theorem pq_iv {P : Nat → Prop} [DecidablePred P] {m : Nat} (h : ∀ j, j < 15 → (m.testBit j = true ↔ P j)) : pq m = sm (fun j => iv (P j)) 15 := by
  rw [pq_sm]
  refine sm_ext _ (fun j hj => ?_)
  have e := Nat.toNat_testBit m j
  by_cases g : P j
  · rw [iv_t g, ← e, (h j hj).mpr g]
    rfl
  · rw [iv_f g, ← e]
    cases q : m.testBit j
    · rfl
    · exact absurd ((h j hj).mp q) g
/-- the pairs of a point that no triple covers -/
def opI (V : Nat) (T : sT) (p : Nat) : Nat := sm (fun i => iv (i < V ∧ ¬ p = i ∧ T p i = -1)) 15
theorem op_bc {V p : Nat} {T : sT} (hV : V ≤ 15) (hp : p < V) : bcN (opN V T p) = ((opI V T p : Nat) : Int) := by
  rw [bc_pq (op_lt V T p)]
  unfold opI
  rw [pq_iv (P := fun i => i < V ∧ ¬ p = i ∧ T p i = -1) (fun i hi => by
    rw [op_test hV, decide_eq_true_iff]
    exact ⟨fun z => z.2, fun z => ⟨hp, z⟩⟩)]
theorem pts6 : ∀ x y z : Fin 15, x.1 < y.1 → y.1 < z.1 → sm (fun u => sm (fun v => iv ((u = x.1 ∨ u = y.1 ∨ u = z.1) ∧ (v = x.1 ∨ v = y.1 ∨ v = z.1) ∧ ¬ u = v)) 15) 15 = 6 := by decide +kernel
theorem cov_t {V : Nat} {T : sT} (hT : sOk V T) {t : Nat} (ht : t < (trL T 225).length) : sm (fun u => sm (fun v => iv (onL T t u ∧ onL T t v ∧ ¬ u = v)) 15) 15 = 6 := by
  obtain ⟨x, y, z, h1, h2, h3, -, -, h6⟩ := on_pts hT ht
  have h15 := hT.2.1
  rw [← pts6 ⟨x, by omega⟩ ⟨y, by omega⟩ ⟨z, by omega⟩ h1 h2]
  refine sm_ext _ (fun u _ => sm_ext _ (fun v _ => iv_eq ?_))
  rw [h6, h6]
theorem cov_6 {V : Nat} {T : sT} (hT : sOk V T) : sm (fun u => sm (fun v => iv (¬ T u v = -1)) 15) 15 = 6 * (trL T 225).length := by
  have e : sm (fun u => sm (fun v => iv (¬ T u v = -1)) 15) 15 = sm (fun u => sm (fun v => sm (fun t => iv (onL T t u ∧ onL T t v ∧ ¬ u = v)) (trL T 225).length) 15) 15 := by
    refine sm_ext _ (fun u _ => sm_ext _ (fun v _ => ?_))
    by_cases g : T u v = -1
    · rw [iv_f (p := ¬ T u v = -1) (fun z => z g)]
      exact Eq.symm (sm_none (fun t ht => iv_f (fun z => (on_T hT ht z.1 z.2.1 z.2.2).1 g)))
    · obtain ⟨w, -, -, -, -, -, huv, -, -, k1, -, k2, k3, -⟩ := li_s hT g
      rw [iv_t (p := ¬ T u v = -1) g]
      exact Eq.symm (sm_one k1 (iv_t ⟨k2, k3, huv⟩) (fun t ht hne => iv_f (fun z => hne (on_1 hT ht k1 huv z.1 z.2.1 k2 k3))))
  have e2 : sm (fun u => sm (fun v => sm (fun t => iv (onL T t u ∧ onL T t v ∧ ¬ u = v)) (trL T 225).length) 15) 15 = sm (fun t => sm (fun u => sm (fun v => iv (onL T t u ∧ onL T t v ∧ ¬ u = v)) 15) 15) (trL T 225).length := by
    exact (sm_ext _ (fun u _ => sm_swap (fun v t => iv (onL T t u ∧ onL T t v ∧ ¬ u = v)) _ _)).trans (sm_swap (fun u t => sm (fun v => iv (onL T t u ∧ onL T t v ∧ ¬ u = v)) 15) _ _)
  rw [e, e2, sm_ext (g := fun _ => 6) _ (fun t ht => cov_t hT ht), sm_const, Nat.mul_comm]
theorem row_V : ∀ V p : Fin 16, p.1 < V.1 → sm (fun i => iv (i < V.1 ∧ ¬ p.1 = i)) 15 = V.1 - 1 := by decide +kernel
theorem op_cov {V p : Nat} {T : sT} (hT : sOk V T) (hp : p < V) : opI V T p + sm (fun v => iv (¬ T p v = -1)) 15 = V - 1 := by
  have h15 := hT.2.1
  unfold opI
  rw [← row_V ⟨V, by omega⟩ ⟨p, by omega⟩ hp, ← sm_add]
  refine sm_ext _ (fun i _ => ?_)
  by_cases g : T p i = -1
  · rw [iv_f (p := ¬ T p i = -1) (fun z => z g), Nat.add_zero]
    exact iv_eq ⟨fun z => ⟨z.1, z.2.1⟩, fun z => ⟨z.1, z.2, g⟩⟩
  · obtain ⟨w, -, -, -, hi, -, hpi, -⟩ := li_s hT g
    rw [iv_t (p := ¬ T p i = -1) g, iv_f (p := i < V ∧ ¬ p = i ∧ T p i = -1) (fun z => g z.2.2), iv_t (p := i < V ∧ ¬ p = i) ⟨hi, hpi⟩]
theorem sm_tail {f : Nat → Nat} {V n : Nat} (hV : V ≤ n) (h : ∀ i, V ≤ i → i < n → f i = 0) : sm f n = sm f V := by
  have s := sm_split f V (n - V)
  rw [show V + (n - V) = n by omega, sm_none (f := fun j => f (V + j)) (fun j hj => h (V + j) (by omega) (by omega))] at s
  exact s
theorem sq_even : ∀ V : Fin 16, V.1 * (V.1 - 1) % 2 = 0 := by decide
/-- all of them, each from both of its points -/
theorem op_len {V : Nat} {T : sT} (hT : sOk V T) : sm (opI V T) V + 6 * (trL T 225).length = V * (V - 1) := by
  have h15 := hT.2.1
  have e : sm (fun u => sm (fun v => iv (¬ T u v = -1)) 15) 15 = sm (fun u => sm (fun v => iv (¬ T u v = -1)) 15) V := sm_tail h15 (fun u h1 h2 => sm_none (fun v _ => iv_f (fun z => by
    obtain ⟨w, -, -, hu, -⟩ := li_s hT z
    omega)))
  rw [← cov_6 hT, e, ← sm_add, ← sm_const (V - 1) V]
  exact sm_ext _ (fun p hp => op_cov hT hp)
/-- how many pairs no triple covers -/
def opC (V : Nat) (T : sT) : Nat := V * (V - 1) / 2 - 3 * (trL T 225).length
theorem op_half {V : Nat} {T : sT} (hT : sOk V T) : sm (opI V T) V / 2 = opC V T ∧ 3 * (trL T 225).length ≤ V * (V - 1) / 2 := by
  have h := op_len hT
  have h15 := hT.2.1
  have e := sq_even ⟨V, by omega⟩
  have e : V * (V - 1) % 2 = 0 := e
  unfold opC
  generalize V * (V - 1) = w at *
  omega
theorem opI_le {V p : Nat} {T : sT} (hT : sOk V T) (hp : p < V) : opI V T p ≤ 14 := by
  have := op_cov hT hp
  have := hT.2.1
  omega
theorem sm_opI {V : Nat} {T : sT} (hT : sOk V T) : ∀ t, t ≤ V → sm (opI V T) t ≤ 14 * t
  | 0, _ => Nat.zero_le _
  | t + 1, h => by
    have h1 := sm_opI hT t (by omega)
    have h2 := opI_le hT (p := t) (by omega)
    show sm (opI V T) t + opI V T t ≤ _
    omega
theorem u23 : bUp 0 am_m23.1 = true := by decide +kernel
theorem l23E {d o V : Nat} {T : sT} {hp : amH} {R : xQ} (ho : bo o) (hH : bHk 84 bTT hp) (hB : bdOk hp o V T)
    (hR : ∀ z : Int32, z.toInt = ((opC V T : Nat) : Int) → R (.inl (some (.int z))) hp) :
    ∀ (jj t : Nat) (w wt : Int32), wt.toInt = (t : Int) → t + jj = V → w.toInt = ((sm (opI V T) t : Nat) : Int) → xV (d + 2) am_m23 4 [some (.ref o), some (.int w), some (.int wt)] [] hp R := by
  have hT := hB.2.1
  have hV := hT.2.1
  have b0 := hB.1
  intro jj
  induction jj with
  | zero =>
    intro t w wt hwt hj hw
    have et : t = V := by omega
    subst et
    have k := (op_half hT).1
    have k2 := sm_opI hT t (by omega)
    refine xild 5 ⟨u23, _, rfl⟩ rfl rfl ?_
    refine xald 6 ⟨u23, _, rfl⟩ rfl rfl ?_
    refine xgetC 9 hH ⟨u23, _, rfl⟩ rfl (bo_lt ho) (by decide) (bo_T ho) rfl (by decide) (fun z6 h6 => ?_)
    refine xcmp_ge 12 ⟨u23, _, rfl⟩ rfl (fun c9 => ?_) (fun c9 => ?_)
    · refine xild 30 ⟨u23, _, rfl⟩ rfl rfl ?_
      refine xcst 31 (2) ⟨u23, _, rfl⟩ rfl (by decide) (fun z30 h30 => ?_)
      refine xdiv 32 (Int32.toInt w / 2) ⟨u23, _, rfl⟩ rfl (by omega) (by omega) (by rw [h30]) (fun z31 h31 => ?_)
      exact xret ⟨u23, _, rfl⟩ rfl (hR _ (by omega))
    · omega
  | succ jj ih =>
    intro t w wt hwt hj hw
    have k2 := sm_opI hT t (by omega)
    have k3 := opI_le hT (p := t) (by omega)
    have k4 := op_bc (T := T) hV (show t < V by omega)
    refine xild 5 ⟨u23, _, rfl⟩ rfl rfl ?_
    refine xald 6 ⟨u23, _, rfl⟩ rfl rfl ?_
    refine xgetC 9 hH ⟨u23, _, rfl⟩ rfl (bo_lt ho) (by decide) (bo_T ho) rfl (by decide) (fun z6 h6 => ?_)
    refine xcmp_ge 12 ⟨u23, _, rfl⟩ rfl (fun c9 => ?_) (fun c9 => ?_)
    · omega
    · refine xild 13 ⟨u23, _, rfl⟩ rfl rfl ?_
      refine xald 14 ⟨u23, _, rfl⟩ rfl rfl ?_
      refine xild 15 ⟨u23, _, rfl⟩ rfl rfl ?_
      refine xcallC 18 (o := o) [.int _] [.int _] hH ⟨u23, _, rfl⟩ rfl rfl (bo_lt ho) (bo_T ho) (by decide) rfl ⟨rfl, rfl, rfl, rfl⟩ rfl (k_opn (x := t) ho hH hB hwt (fun z15 h15 => ⟨_, rfl, ?_⟩))
      refine xcallS 21 [.int _] [.int _] hH ⟨u23, _, rfl⟩ rfl rfl rfl rfl rfl (k_bc h15 (fun z18 h18 => ⟨_, rfl, ?_⟩))
      rw [k4] at h18
      refine xadd 22 _ ⟨u23, _, rfl⟩ rfl rfl (by omega) (by omega) (fun z21 h21 => ?_)
      refine xist 23 ⟨u23, _, rfl⟩ rfl rfl ?_
      refine xinc 26 (1) ⟨u23, _, rfl⟩ rfl rfl rfl (by decide) (by omega) (by omega) (fun z23 h23 => ?_)
      refine xgoto ⟨u23, _, rfl⟩ ?_
      exact ih (t + 1) _ _ (by omega) (by omega) (by show _ = ((sm (opI V T) t + opI V T t : Nat) : Int); omega)
theorem k_23E {d o V : Nat} {T : sT} {hp : amH} {R : xQ} (ho : bo o) (hH : bHk 84 bTT hp) (hB : bdOk hp o V T)
    (hR : ∀ z : Int32, z.toInt = ((opC V T : Nat) : Int) → R (.inl (some (.int z))) hp) : xK (d + 2) 23 [.ref o] hp R := by
  refine xin (M := am_m23) rfl rfl (by unfold xAv; simp [amOk, bo_lt ho, Value.category]) ?_
  refine xcst 1 (0) ⟨u23, _, rfl⟩ rfl (by decide) (fun z0 h0 => ?_)
  refine xist 2 ⟨u23, _, rfl⟩ rfl rfl ?_
  refine xcst 3 (0) ⟨u23, _, rfl⟩ rfl (by decide) (fun z2 h2 => ?_)
  refine xist 4 ⟨u23, _, rfl⟩ rfl rfl ?_
  exact l23E ho hH hB hR V 0 _ _ h2 (by omega) h0
