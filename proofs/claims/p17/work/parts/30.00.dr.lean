/-! ##### 43b ##### -/
section
/-! ===== points of a set counted; pairs that no triple covers counted ===== -/
def pq (m : Nat) : Nat := m % 2 + m / 2 % 2 + m / 4 % 2 + m / 8 % 2 + m / 16 % 2 + m / 32 % 2 + m / 64 % 2 + m / 128 % 2 + m / 256 % 2 + m / 512 % 2 + m / 1024 % 2 + m / 2048 % 2 + m / 4096 % 2 + m / 8192 % 2 + m / 16384 % 2
def bmOk (i : Nat) : Bool := Nat.beq (bcM i) (pq i)
theorem bmk_0 : (List.range 4096).all (fun i => bmOk (i + 0)) = true := by decide +kernel
theorem bmk_1 : (List.range 4096).all (fun i => bmOk (i + 4096)) = true := by decide +kernel
theorem bmk_2 : (List.range 4096).all (fun i => bmOk (i + 8192)) = true := by decide +kernel
theorem bmk_3 : (List.range 4096).all (fun i => bmOk (i + 12288)) = true := by decide +kernel
theorem bmk_4 : (List.range 4096).all (fun i => bmOk (i + 16384)) = true := by decide +kernel
theorem bmk_5 : (List.range 4096).all (fun i => bmOk (i + 20480)) = true := by decide +kernel
theorem bmk_6 : (List.range 4096).all (fun i => bmOk (i + 24576)) = true := by decide +kernel
theorem bmk_7 : (List.range 4096).all (fun i => bmOk (i + 28672)) = true := by decide +kernel
theorem bmk_all {i : Nat} (h : i < 32768) : bmOk i = true := by
  have key : ∀ a : Nat, (List.range 4096).all (fun i => bmOk (i + a)) = true → a ≤ i → i < a + 4096 → bmOk i = true := by
    intro a ha h1 h2
    have := List.all_eq_true.mp ha (i - a) (List.mem_range.mpr (by omega))
    rwa [Nat.sub_add_cancel h1] at this
  by_cases h0 : i < 4096
  · exact key 0 bmk_0 (by omega) (by omega)
  by_cases h1 : i < 8192
  · exact key 4096 bmk_1 (by omega) (by omega)
  by_cases h2 : i < 12288
  · exact key 8192 bmk_2 (by omega) (by omega)
  by_cases h3 : i < 16384
  · exact key 12288 bmk_3 (by omega) (by omega)
  by_cases h4 : i < 20480
  · exact key 16384 bmk_4 (by omega) (by omega)
  by_cases h5 : i < 24576
  · exact key 20480 bmk_5 (by omega) (by omega)
  by_cases h6 : i < 28672
  · exact key 24576 bmk_6 (by omega) (by omega)
  by_cases h7 : i < 32768
  · exact key 28672 bmk_7 (by omega) (by omega)
  omega
theorem bcF_pq {i : Nat} (h : i < 32768) : (bcF (Int32.ofNat i)).toInt = ((pq i : Nat) : Int) := by
  rw [bcF_m h, Nat.eq_of_beq_eq_true (bmk_all h)]
theorem bc_pq {m : Nat} (h : m < 32768) : bcN m = ((pq m : Nat) : Int) := bcF_pq h
theorem pq_sm (m : Nat) : pq m = sm (fun j => m / 2 ^ j % 2) 15 := by
  simp [sm, pq]
theorem pq_iv {P : Nat → Prop} [DecidablePred P] {m : Nat} (h : ∀ j, j < 15 → (m.testBit j = true ↔ P j)) : pq m = sm (fun j => iv (P j)) 15 := by
  rw [pq_sm]
  refine sm_ext _ (fun j hj => ?_)
  have e := Nat.toNat_testBit m j
  by_cases g : P j
  · rw [iv_t g, ← e, (h j hj).mpr g]
    rfl
  · rw [iv_f g, ← e]
    cases q : m.testBit j
    · rfl
    · exact absurd ((h j hj).mp q) g
/-- the pairs of a point that no triple covers -/
def opI (V : Nat) (T : sT) (p : Nat) : Nat := sm (fun i => iv (i < V ∧ ¬ p = i ∧ T p i = -1)) 15
theorem op_bc {V p : Nat} {T : sT} (hV : V ≤ 15) (hp : p < V) : bcN (opN V T p) = ((opI V T p : Nat) : Int) := by
  rw [bc_pq (op_lt V T p)]
  unfold opI
  rw [pq_iv (P := fun i => i < V ∧ ¬ p = i ∧ T p i = -1) (fun i hi => by
    rw [op_test hV, decide_eq_true_iff]
    exact ⟨fun z => z.2, fun z => ⟨hp, z⟩⟩)]
theorem pts6 : ∀ x y z : Fin 15, x.1 < y.1 → y.1 < z.1 → sm (fun u => sm (fun v => iv ((u = x.1 ∨ u = y.1 ∨ u = z.1) ∧ (v = x.1 ∨ v = y.1 ∨ v = z.1) ∧ ¬ u = v)) 15) 15 = 6 := by decide +kernel
theorem cov_t {V : Nat} {T : sT} (hT : sOk V T) {t : Nat} (ht : t < (trL T 225).length) : sm (fun u => sm (fun v => iv (onL T t u ∧ onL T t v ∧ ¬ u = v)) 15) 15 = 6 := by
  obtain ⟨x, y, z, h1, h2, h3, -, -, h6⟩ := on_pts hT ht
  have h15 := hT.2.1
  rw [← pts6 ⟨x, by omega⟩ ⟨y, by omega⟩ ⟨z, by omega⟩ h1 h2]
  refine sm_ext _ (fun u _ => sm_ext _ (fun v _ => iv_eq ?_))
  rw [h6, h6]
theorem cov_6 {V : Nat} {T : sT} (hT : sOk V T) : sm (fun u => sm (fun v => iv (¬ T u v = -1)) 15) 15 = 6 * (trL T 225).length := by
  have e : sm (fun u => sm (fun v => iv (¬ T u v = -1)) 15) 15 = sm (fun u => sm (fun v => sm (fun t => iv (onL T t u ∧ onL T t v ∧ ¬ u = v)) (trL T 225).length) 15) 15 := by
    refine sm_ext _ (fun u _ => sm_ext _ (fun v _ => ?_))
    by_cases g : T u v = -1
    · rw [iv_f (p := ¬ T u v = -1) (fun z => z g)]
      exact Eq.symm (sm_none (fun t ht => iv_f (fun z => (on_T hT ht z.1 z.2.1 z.2.2).1 g)))
    · obtain ⟨w, -, -, -, -, -, huv, -, -, k1, -, k2, k3, -⟩ := li_s hT g
      rw [iv_t (p := ¬ T u v = -1) g]
      exact Eq.symm (sm_one k1 (iv_t ⟨k2, k3, huv⟩) (fun t ht hne => iv_f (fun z => hne (on_1 hT ht k1 huv z.1 z.2.1 k2 k3))))
  have e2 : sm (fun u => sm (fun v => sm (fun t => iv (onL T t u ∧ onL T t v ∧ ¬ u = v)) (trL T 225).length) 15) 15 = sm (fun t => sm (fun u => sm (fun v => iv (onL T t u ∧ onL T t v ∧ ¬ u = v)) 15) 15) (trL T 225).length := by
    exact (sm_ext _ (fun u _ => sm_swap (fun v t => iv (onL T t u ∧ onL T t v ∧ ¬ u = v)) _ _)).trans (sm_swap (fun u t => sm (fun v => iv (onL T t u ∧ onL T t v ∧ ¬ u = v)) 15) _ _)
  rw [e, e2, sm_ext (g := fun _ => 6) _ (fun t ht => cov_t hT ht), sm_const, Nat.mul_comm]
theorem row_V : ∀ V p : Fin 16, p.1 < V.1 → sm (fun i => iv (i < V.1 ∧ ¬ p.1 = i)) 15 = V.1 - 1 := by decide +kernel
theorem op_cov {V p : Nat} {T : sT} (hT : sOk V T) (hp : p < V) : opI V T p + sm (fun v => iv (¬ T p v = -1)) 15 = V - 1 := by
  have h15 := hT.2.1
  unfold opI
  rw [← row_V ⟨V, by omega⟩ ⟨p, by omega⟩ hp, ← sm_add]
  refine sm_ext _ (fun i _ => ?_)
  by_cases g : T p i = -1
  · rw [iv_f (p := ¬ T p i = -1) (fun z => z g), Nat.add_zero]
    exact iv_eq ⟨fun z => ⟨z.1, z.2.1⟩, fun z => ⟨z.1, z.2, g⟩⟩
  · obtain ⟨w, -, -, -, hi, -, hpi, -⟩ := li_s hT g
    rw [iv_t (p := ¬ T p i = -1) g, iv_f (p := i < V ∧ ¬ p = i ∧ T p i = -1) (fun z => g z.2.2), iv_t (p := i < V ∧ ¬ p = i) ⟨hi, hpi⟩]
theorem sm_tail {f : Nat → Nat} {V n : Nat} (hV : V ≤ n) (h : ∀ i, V ≤ i → i < n → f i = 0) : sm f n = sm f V := by
  have s := sm_split f V (n - V)
  rw [show V + (n - V) = n by omega, sm_none (f := fun j => f (V + j)) (fun j hj => h (V + j) (by omega) (by omega))] at s
  exact s
theorem sq_even : ∀ V : Fin 16, V.1 * (V.1 - 1) % 2 = 0 := by decide
/-- all of them, each from both of its points -/
theorem op_len {V : Nat} {T : sT} (hT : sOk V T) : sm (opI V T) V + 6 * (trL T 225).length = V * (V - 1) := by
  have h15 := hT.2.1
  have e : sm (fun u => sm (fun v => iv (¬ T u v = -1)) 15) 15 = sm (fun u => sm (fun v => iv (¬ T u v = -1)) 15) V := sm_tail h15 (fun u h1 h2 => sm_none (fun v _ => iv_f (fun z => by
    obtain ⟨w, -, -, hu, -⟩ := li_s hT z
    omega)))
  rw [← cov_6 hT, e, ← sm_add, ← sm_const (V - 1) V]
  exact sm_ext _ (fun p hp => op_cov hT hp)
/-- how many pairs no triple covers -/
def opC (V : Nat) (T : sT) : Nat := V * (V - 1) / 2 - 3 * (trL T 225).length
theorem op_half {V : Nat} {T : sT} (hT : sOk V T) : sm (opI V T) V / 2 = opC V T ∧ 3 * (trL T 225).length ≤ V * (V - 1) / 2 := by
  have h := op_len hT
  have h15 := hT.2.1
  have e := sq_even ⟨V, by omega⟩
  have e : V * (V - 1) % 2 = 0 := e
  unfold opC
  generalize V * (V - 1) = w at *
  omega
theorem opI_le {V p : Nat} {T : sT} (hT : sOk V T) (hp : p < V) : opI V T p ≤ 14 := by
  have := op_cov hT hp
  have := hT.2.1
  omega
theorem sm_opI {V : Nat} {T : sT} (hT : sOk V T) : ∀ t, t ≤ V → sm (opI V T) t ≤ 14 * t
  | 0, _ => Nat.zero_le _
  | t + 1, h => by
    have h1 := sm_opI hT t (by omega)
    have h2 := opI_le hT (p := t) (by omega)
    show sm (opI V T) t + opI V T t ≤ _
    omega
theorem u23 : bUp 0 am_m23.1 = true := by decide +kernel
theorem l23E {d o V : Nat} {T : sT} {hp : amH} {R : xQ} (ho : bo o) (hH : bHk 84 bTT hp) (hB : bdOk hp o V T)
    (hR : ∀ z : Int32, z.toInt = ((opC V T : Nat) : Int) → R (.inl (some (.int z))) hp) :
    ∀ (jj t : Nat) (w wt : Int32), wt.toInt = (t : Int) → t + jj = V → w.toInt = ((sm (opI V T) t : Nat) : Int) → xV (d + 2) am_m23 4 [some (.ref o), some (.int w), some (.int wt)] [] hp R := by
  have hT := hB.2.1
  have hV := hT.2.1
  have b0 := hB.1
  intro jj
  induction jj with
  | zero =>
    intro t w wt hwt hj hw
    have et : t = V := by omega
    subst et
    have k := (op_half hT).1
    have k2 := sm_opI hT t (by omega)
    refine xild 5 ⟨u23, _, rfl⟩ rfl rfl ?_
    refine xald 6 ⟨u23, _, rfl⟩ rfl rfl ?_
    refine xgetC 9 hH ⟨u23, _, rfl⟩ rfl (bo_lt ho) (by decide) (bo_T ho) rfl (by decide) (fun z6 h6 => ?_)
    refine xcmp_ge 12 ⟨u23, _, rfl⟩ rfl (fun c9 => ?_) (fun c9 => ?_)
    · refine xild 30 ⟨u23, _, rfl⟩ rfl rfl ?_
      refine xcst 31 (2) ⟨u23, _, rfl⟩ rfl (by decide) (fun z30 h30 => ?_)
      refine xdiv 32 (Int32.toInt w / 2) ⟨u23, _, rfl⟩ rfl (by omega) (by omega) (by rw [h30]) (fun z31 h31 => ?_)
      exact xret ⟨u23, _, rfl⟩ rfl (hR _ (by omega))
    · omega
  | succ jj ih =>
    intro t w wt hwt hj hw
    have k2 := sm_opI hT t (by omega)
    have k3 := opI_le hT (p := t) (by omega)
    have k4 := op_bc (T := T) hV (show t < V by omega)
    refine xild 5 ⟨u23, _, rfl⟩ rfl rfl ?_
    refine xald 6 ⟨u23, _, rfl⟩ rfl rfl ?_
    refine xgetC 9 hH ⟨u23, _, rfl⟩ rfl (bo_lt ho) (by decide) (bo_T ho) rfl (by decide) (fun z6 h6 => ?_)
    refine xcmp_ge 12 ⟨u23, _, rfl⟩ rfl (fun c9 => ?_) (fun c9 => ?_)
    · omega
    · refine xild 13 ⟨u23, _, rfl⟩ rfl rfl ?_
      refine xald 14 ⟨u23, _, rfl⟩ rfl rfl ?_
      refine xild 15 ⟨u23, _, rfl⟩ rfl rfl ?_
      refine xcallC 18 (o := o) [.int _] [.int _] hH ⟨u23, _, rfl⟩ rfl rfl (bo_lt ho) (bo_T ho) (by decide) rfl ⟨rfl, rfl, rfl, rfl⟩ rfl (k_opn (x := t) ho hH hB hwt (fun z15 h15 => ⟨_, rfl, ?_⟩))
      refine xcallS 21 [.int _] [.int _] hH ⟨u23, _, rfl⟩ rfl rfl rfl rfl rfl (k_bc h15 (fun z18 h18 => ⟨_, rfl, ?_⟩))
      rw [k4] at h18
      refine xadd 22 _ ⟨u23, _, rfl⟩ rfl rfl (by omega) (by omega) (fun z21 h21 => ?_)
      refine xist 23 ⟨u23, _, rfl⟩ rfl rfl ?_
      refine xinc 26 (1) ⟨u23, _, rfl⟩ rfl rfl rfl (by decide) (by omega) (by omega) (fun z23 h23 => ?_)
      refine xgoto ⟨u23, _, rfl⟩ ?_
      exact ih (t + 1) _ _ (by omega) (by omega) (by show _ = ((sm (opI V T) t + opI V T t : Nat) : Int); omega)
theorem k_23E {d o V : Nat} {T : sT} {hp : amH} {R : xQ} (ho : bo o) (hH : bHk 84 bTT hp) (hB : bdOk hp o V T)
    (hR : ∀ z : Int32, z.toInt = ((opC V T : Nat) : Int) → R (.inl (some (.int z))) hp) : xK (d + 2) 23 [.ref o] hp R := by
  refine xin (M := am_m23) rfl rfl (by unfold xAv; simp [amOk, bo_lt ho, Value.category]) ?_
  refine xcst 1 (0) ⟨u23, _, rfl⟩ rfl (by decide) (fun z0 h0 => ?_)
  refine xist 2 ⟨u23, _, rfl⟩ rfl rfl ?_
  refine xcst 3 (0) ⟨u23, _, rfl⟩ rfl (by decide) (fun z2 h2 => ?_)
  refine xist 4 ⟨u23, _, rfl⟩ rfl rfl ?_
  exact l23E ho hH hB hR V 0 _ _ h2 (by omega) h0
end
/-! ##### 43c ##### -/
section
/-! ===== count on both sides ===== -/
theorem xtab (q : Nat) {M : amM} {pc a b d : Nat} {L : List (Option Value)} {st : List Value} {hp : amH} {Q : xQ} {dd lo hi : Int} {offs : Array Int} {x : Int32} {o : Int} (h : xI M pc (.tableswitch dd lo hi offs) a b) (ho : amOff x.toInt dd lo hi offs = some o) (e : (q : Int) = (pc : Int) + o) (hw : xV d M q L st hp Q) : xV d M pc L (.int x :: st) hp Q := by
  refine xstep h (fun cl hl => ⟨cl, ?_, hl⟩) hw
  simp only [amDo, amStep, amTbl, ho]
  rw [if_pos (by omega), ← e]
  rfl
def gCt (x : Int) : Int := if 0 ≤ x ∧ x ≤ 7 then 0 else 1
def ctV (V : Nat) (T : sT) (ty : Nat → Int) (n : Nat) (x : Int) : Int := if x = 0 then (V : Int) else if x = 1 then (((trL T 225).length : Nat) : Int) else if x = 2 then ((opC V T : Nat) : Int) else if x = 3 then ((nQ T : Nat) : Int) else if x = 7 then (n : Int) else ty (x - 4).toNat
theorem gCt_12 {x : Int} : gCt x = 0 ∨ gCt x = 1 := by unfold gCt; split <;> simp
theorem gCt_0 {x : Int} : gCt x = 0 ↔ 0 ≤ x ∧ x ≤ 7 := by unfold gCt; split <;> omega
theorem u118 : bUp 0 am_m118.1 = true := by decide +kernel
theorem k_118E {d V n : Nat} {h : Nat → sR} {sv : Option sR} {T : sT} {ty : Nat → Int} {hp : amH} {R : xQ} {a : Int32} (hH : bHk 84 bTT hp) (hS : clS hp (V, T, ty) n h sv)
    (hT : gCt a.toInt = 1 → R (.inr 0) hp)
    (hR : ∀ (z : Int32) hp1, bHk 84 bTT hp1 → cF hp hp1 → gCt a.toInt = 0 → clS hp1 (V, T, ty) n h sv → z.toInt = ctV V T ty n a.toInt → R (.inl (some (.int z))) hp1) : xK (d + 3) 118 [.ref 0, .int a] hp R := by
  have hB : bdOk hp 3 V T := hS.1
  have b0 : rN hp 3 0 = (V : Int) := hB.1
  have b1 : rN hp 3 1 = (((trL T 225).length : Nat) : Int) := hS.2.1.1
  have b2 : rN hp 49 0 = ((nQ T : Nat) : Int) := hS.2.2.1.1
  have b3 : ∀ i, i < 3 → rN hp 13 i = ty i := hS.2.2.2.1
  have b4 : rN hp 14 0 = (n : Int) := hS.2.2.2.2.1
  have t0 := b3 0 (by omega)
  have t1 := b3 1 (by omega)
  have t2 := b3 2 (by omega)
  refine xin (M := am_m118) rfl rfl rfl ?_
  refine xild 1 ⟨u118, _, rfl⟩ rfl rfl ?_
  have sp : (a.toInt < 0 ∨ 7 < a.toInt) ∨ a.toInt = 0 ∨ a.toInt = 1 ∨ a.toInt = 2 ∨ a.toInt = 3 ∨ a.toInt = 4 ∨ a.toInt = 5 ∨ a.toInt = 6 ∨ a.toInt = 7 := by omega
  rcases sp with e | e | e | e | e | e | e | e | e
  · refine xtab 112 ⟨u118, _, rfl⟩ (o := 111) (by unfold amOff; rw [if_pos (by omega)]) (by decide) ?_
    have g1 : gCt a.toInt = 1 := by unfold gCt; rw [if_neg (by omega)]
    exact xthr ⟨u118, _, rfl⟩ (by decide) rfl (by decide) (hT g1)
  · refine xtab 48 ⟨u118, _, rfl⟩ (o := 47) (by rw [e]; rfl) (by decide) ?_
    have g0 : gCt a.toInt = 0 := gCt_0.mpr (by omega)
    refine xald 49 ⟨u118, _, rfl⟩ rfl rfl ?_
    refine xgetD 52 (3) hH ⟨u118, _, rfl⟩ rfl (by decide) (by decide) rfl rfl (by decide) ?_
    refine xgetC 55 hH ⟨u118, _, rfl⟩ rfl (by decide) (by decide) rfl rfl (by decide) (fun z52 h52 => ?_)
    exact xret ⟨u118, _, rfl⟩ rfl (hR _ _ hH cF.refl g0 hS (by rw [e]; show _ = (V : Int); omega))
  · refine xtab 56 ⟨u118, _, rfl⟩ (o := 55) (by rw [e]; rfl) (by decide) ?_
    have g0 : gCt a.toInt = 0 := gCt_0.mpr (by omega)
    refine xald 57 ⟨u118, _, rfl⟩ rfl rfl ?_
    refine xgetD 60 (3) hH ⟨u118, _, rfl⟩ rfl (by decide) (by decide) rfl rfl (by decide) ?_
    refine xgetC 63 hH ⟨u118, _, rfl⟩ rfl (by decide) (by decide) rfl rfl (by decide) (fun z60 h60 => ?_)
    exact xret ⟨u118, _, rfl⟩ rfl (hR _ _ hH cF.refl g0 hS (by rw [e]; show _ = (((trL T 225).length : Nat) : Int); omega))
  · refine xtab 64 ⟨u118, _, rfl⟩ (o := 63) (by rw [e]; rfl) (by decide) ?_
    have g0 : gCt a.toInt = 0 := gCt_0.mpr (by omega)
    refine xald 65 ⟨u118, _, rfl⟩ rfl rfl ?_
    refine xgetD 68 (3) hH ⟨u118, _, rfl⟩ rfl (by decide) (by decide) rfl rfl (by decide) ?_
    refine xcallC 71 (o := 3) [] [] hH ⟨u118, _, rfl⟩ rfl rfl (by decide) rfl (by decide) rfl ⟨rfl, rfl, rfl, rfl⟩ rfl (k_23E (o := 3) (Or.inl rfl) hH hB (fun z68 h68 => ⟨_, rfl, ?_⟩))
    exact xret ⟨u118, _, rfl⟩ rfl (hR _ _ hH cF.refl g0 hS (by rw [e]; show _ = ((opC V T : Nat) : Int); omega))
  · refine xtab 72 ⟨u118, _, rfl⟩ (o := 71) (by rw [e]; rfl) (by decide) ?_
    have g0 : gCt a.toInt = 0 := gCt_0.mpr (by omega)
    refine xald 73 ⟨u118, _, rfl⟩ rfl rfl ?_
    refine xgetD 76 (49) hH ⟨u118, _, rfl⟩ rfl (by decide) (by decide) rfl rfl (by decide) ?_
    refine xgetC 79 hH ⟨u118, _, rfl⟩ rfl (by decide) (by decide) rfl rfl (by decide) (fun z76 h76 => ?_)
    exact xret ⟨u118, _, rfl⟩ rfl (hR _ _ hH cF.refl g0 hS (by rw [e]; show _ = ((nQ T : Nat) : Int); omega))
  · refine xtab 80 ⟨u118, _, rfl⟩ (o := 79) (by rw [e]; rfl) (by decide) ?_
    have g0 : gCt a.toInt = 0 := gCt_0.mpr (by omega)
    refine xald 81 ⟨u118, _, rfl⟩ rfl rfl ?_
    refine xgetD 84 (13) hH ⟨u118, _, rfl⟩ rfl (by decide) (by decide) rfl rfl (by decide) ?_
    refine xgetC 87 hH ⟨u118, _, rfl⟩ rfl (by decide) (by decide) rfl rfl (by decide) (fun z84 h84 => ?_)
    exact xret ⟨u118, _, rfl⟩ rfl (hR _ _ hH cF.refl g0 hS (by rw [e]; show _ = ty 0; omega))
  · refine xtab 88 ⟨u118, _, rfl⟩ (o := 87) (by rw [e]; rfl) (by decide) ?_
    have g0 : gCt a.toInt = 0 := gCt_0.mpr (by omega)
    refine xald 89 ⟨u118, _, rfl⟩ rfl rfl ?_
    refine xgetD 92 (13) hH ⟨u118, _, rfl⟩ rfl (by decide) (by decide) rfl rfl (by decide) ?_
    refine xgetC 95 hH ⟨u118, _, rfl⟩ rfl (by decide) (by decide) rfl rfl (by decide) (fun z92 h92 => ?_)
    exact xret ⟨u118, _, rfl⟩ rfl (hR _ _ hH cF.refl g0 hS (by rw [e]; show _ = ty 1; omega))
  · refine xtab 96 ⟨u118, _, rfl⟩ (o := 95) (by rw [e]; rfl) (by decide) ?_
    have g0 : gCt a.toInt = 0 := gCt_0.mpr (by omega)
    refine xald 97 ⟨u118, _, rfl⟩ rfl rfl ?_
    refine xgetD 100 (13) hH ⟨u118, _, rfl⟩ rfl (by decide) (by decide) rfl rfl (by decide) ?_
    refine xgetC 103 hH ⟨u118, _, rfl⟩ rfl (by decide) (by decide) rfl rfl (by decide) (fun z100 h100 => ?_)
    exact xret ⟨u118, _, rfl⟩ rfl (hR _ _ hH cF.refl g0 hS (by rw [e]; show _ = ty 2; omega))
  · refine xtab 104 ⟨u118, _, rfl⟩ (o := 103) (by rw [e]; rfl) (by decide) ?_
    have g0 : gCt a.toInt = 0 := gCt_0.mpr (by omega)
    refine xald 105 ⟨u118, _, rfl⟩ rfl rfl ?_
    refine xgetD 108 (14) hH ⟨u118, _, rfl⟩ rfl (by decide) (by decide) rfl rfl (by decide) ?_
    refine xgetC 111 hH ⟨u118, _, rfl⟩ rfl (by decide) (by decide) rfl rfl (by decide) (fun z108 h108 => ?_)
    exact xret ⟨u118, _, rfl⟩ rfl (hR _ _ hH cF.refl g0 hS (by rw [e]; show _ = (n : Int); omega))
theorem k_215E {d V : Nat} {T : sT} {hp : amH} {R : xQ} (hH : bHk 84 bTT hp) (hP : P0 hp) (hB : rdOk hp V T)
    (hR : ∀ (z : Int32) hp1, bHk 84 bTT hp1 → bFr bLT hp hp1 → rdOk hp1 V T → rlN hp1 T 225 → z.toInt = ((opC V T : Nat) : Int) → R (.inl (some (.int z))) hp1) : xK (d + 3) 215 [.ref 66] hp R := by
  have hV : rN hp 67 0 = (V : Int) := hB.1
  have hT : sOk V T := hB.2.1
  have k := op_half hT
  have h15 := hT.2.1
  have l35 := trL_35 hT 225
  have ev : (V : Int) * ((V : Int) - 1) / 2 = ((V * (V - 1) / 2 : Nat) : Int) := by
    have e3 := hT.1
    rw [show (V : Int) - 1 = ((V - 1 : Nat) : Int) by omega, ← Int.natCast_mul]
    rfl
  have em : V * (V - 1) / 2 ≤ 15 * 14 / 2 := Nat.div_le_div_right (Nat.mul_le_mul h15 (by omega))
  have u215 : bUp 0 am_m215.1 = true := by decide +kernel
  have ec : opC V T = V * (V - 1) / 2 - 3 * (trL T 225).length := rfl
  generalize hw : V * (V - 1) / 2 = w at *
  refine xin (M := am_m215) rfl rfl rfl ?_
  refine xald 1 ⟨u215, _, rfl⟩ rfl rfl ?_
  refine xcall 4 [.ref 66] [] hH ⟨u215, _, rfl⟩ rfl rfl rfl rfl rfl (k_pairs hH hP (fun z1 h1 => ⟨_, rfl, ?_⟩))
  rw [hV, ev] at h1
  refine xcst 5 (3) ⟨u215, _, rfl⟩ rfl (by decide) (fun z4 h4 => ?_)
  refine xald 6 ⟨u215, _, rfl⟩ rfl rfl ?_
  refine xcall 9 [.ref 66] [.int _, .int _] hH ⟨u215, _, rfl⟩ rfl rfl rfl rfl rfl (k_rtm hH hB (fun z6 hp6 hH6 F6 B6 L6 h6 => ⟨_, rfl, ?_⟩))
  refine xmul 10 (3 * Int32.toInt z6) ⟨u215, _, rfl⟩ rfl (by rw [h4]) (by omega) (by omega) (fun z9 h9 => ?_)
  refine xsub 11 _ ⟨u215, _, rfl⟩ rfl rfl (by omega) (by omega) (fun z10 h10 => ?_)
  exact xret ⟨u215, _, rfl⟩ rfl (hR _ _ hH6 F6 B6 L6 (by omega))
theorem k_260E {d V n : Nat} {h : Nat → sR} {sv : Option sR} {T : sT} {ty : Nat → Int} {hp : amH} {R : xQ} {a : Int32} (hH : bHk 84 bTT hp) (hP : P0 hp) (hS : rfS hp (V, T, ty) n h sv)
    (hR : ∀ (z : Int32) hp1, bHk 84 bTT hp1 → P0 hp1 → bFr wM hp hp1 → rN hp1 66 7 = gCt a.toInt → ((¬ gCt a.toInt = 0 ∧ rfS hp1 (V, T, ty) n h sv) ∨ (gCt a.toInt = 0 ∧ rfS hp1 (V, T, ty) n h sv ∧ z.toInt = ctV V T ty n a.toInt)) → R (.inl (some (.int z))) hp1) : xK (d + 6) 260 [.ref 66, .int a] hp R := by
  have u260 : bUp 0 am_m260.1 = true := by decide +kernel
  refine xin (M := am_m260) rfl rfl rfl ?_
  refine xald 1 ⟨u260, _, rfl⟩ rfl rfl ?_
  refine xcst 2 (0) ⟨u260, _, rfl⟩ rfl (by decide) (fun z1 h1 => ?_)
  refine xputI 5 hH ⟨u260, _, rfl⟩ rfl rfl ⟨rfl, rfl⟩ (by omega) (by omega) (fun hp2 hH2 U2 => ?_)
  have s2 := U2.1
  have S2 := rfS_W (W := [(66, 7)]) hS (rU_fr U2 rfl) (fun _ => rfl) rfl rfl (fun _ => rfl) (fun _ => rfl)
  have P2 := P0_W (W := [(66, 7)]) (by decide) (rU_fr U2 rfl) hP
  refine xald 6 ⟨u260, _, rfl⟩ rfl rfl ?_
  refine xild 7 ⟨u260, _, rfl⟩ rfl rfl ?_
  refine xcst 8 (0) ⟨u260, _, rfl⟩ rfl (by decide) (fun z7 h7 => ?_)
  refine xbip 10 (7) ⟨u260, _, rfl⟩ rfl (by decide) (fun z8 h8 => ?_)
  refine xcallS 13 [.int _, .int _, .int _] [.ref 66] hH2 ⟨u260, _, rfl⟩ rfl rfl rfl rfl rfl (k_inr (fun z10 h10 => ⟨_, rfl, ?_⟩))
  refine xif_ne 16 ⟨u260, _, rfl⟩ rfl (fun c13 => ?_) (fun c13 => ?_)
  · refine xcst 21 (0) ⟨u260, _, rfl⟩ rfl (by decide) (fun z20 h20 => ?_)
    refine xcst 22 (1) ⟨u260, _, rfl⟩ rfl (by decide) (fun z21 h21 => ?_)
    refine xcall 25 [.ref 66, .int _, .int _] [] hH2 ⟨u260, _, rfl⟩ rfl rfl rfl rfl rfl (k_failsE hH2 (by omega) (fun hp22 hH22 V22 => ⟨_, rfl, ?_⟩))
    refine xif_eq 28 ⟨u260, _, rfl⟩ rfl (fun c25 => ?_) (fun c25 => ?_)
    · have hpe : hp2 = hp22 := by
        rcases V22 with ⟨q1, e⟩ | ⟨q1, -⟩
        · exact e.symm
        · omega
      subst hpe
      have g0 : gCt a.toInt = 0 := gCt_0.mpr (by omega)
      have S22 := S2
      have t22 : rN hp2 66 7 = gCt a.toInt := by rw [U2.1, g0]; exact h1
      have hB := rowOk_rd S2.1
      have b0 : rN hp2 67 0 = (V : Int) := hB.1
      have b4 : rN hp2 66 5 = (n : Int) := S2.2.1
      have b5 : ∀ i, i < 3 → rN hp2 67 (i + 1) = ty i := S2.1.2.2.2.2
      have t0 : rN hp2 67 1 = ty 0 := b5 0 (by omega)
      have t1 : rN hp2 67 2 = ty 1 := b5 1 (by omega)
      have t2 : rN hp2 67 3 = ty 2 := b5 2 (by omega)
      refine xild 31 ⟨u260, _, rfl⟩ rfl rfl ?_
      have sp : a.toInt = 0 ∨ a.toInt = 1 ∨ a.toInt = 2 ∨ a.toInt = 3 ∨ a.toInt = 4 ∨ a.toInt = 5 ∨ a.toInt = 6 ∨ a.toInt = 7 := by omega
      rcases sp with e | e | e | e | e | e | e | e
      · refine xtab 76 ⟨u260, _, rfl⟩ (o := 45) (by rw [e]; rfl) (by decide) ?_
        refine xald 77 ⟨u260, _, rfl⟩ rfl rfl ?_
        refine xcall 80 [.ref 66] [] hH22 ⟨u260, _, rfl⟩ rfl rfl rfl rfl rfl (k_points hH22 (fun z77 h77 => ⟨_, rfl, ?_⟩))
        exact xret ⟨u260, _, rfl⟩ rfl (hR _ hp2 hH22 P2 (rU_fr U2 (by decide)) t22 (Or.inr ⟨g0, S2, by rw [e]; show _ = (V : Int); omega⟩))
      · refine xtab 81 ⟨u260, _, rfl⟩ (o := 50) (by rw [e]; rfl) (by decide) ?_
        refine xald 82 ⟨u260, _, rfl⟩ rfl rfl ?_
        refine xcall 85 [.ref 66] [] hH22 ⟨u260, _, rfl⟩ rfl rfl rfl rfl rfl (k_rtm hH22 hB (fun z82 hp82 hH82 F82 B82 L82 h82 => ⟨_, rfl, ?_⟩))
        exact xret ⟨u260, _, rfl⟩ rfl (hR _ hp82 hH82 (P0_W (W := bLT) (by decide) F82 P2) ((rU_fr U2 (by decide)).trans (bFr_sub F82 (by decide))) (by rw [show rN hp82 66 7 = rN hp2 66 7 from r_fr F82 rfl]; exact t22) (Or.inr ⟨g0, rfS_W S2 F82 (fun _ => rfl) rfl rfl (fun _ => rfl) (fun _ => rfl), by rw [e]; show _ = (((trL T 225).length : Nat) : Int); omega⟩))
      · refine xtab 86 ⟨u260, _, rfl⟩ (o := 55) (by rw [e]; rfl) (by decide) ?_
        refine xald 87 ⟨u260, _, rfl⟩ rfl rfl ?_
        refine xcall 90 [.ref 66] [] hH22 ⟨u260, _, rfl⟩ rfl rfl rfl rfl rfl (k_215E hH22 P2 hB (fun z87 hp87 hH87 F87 B87 L87 h87 => ⟨_, rfl, ?_⟩))
        exact xret ⟨u260, _, rfl⟩ rfl (hR _ hp87 hH87 (P0_W (W := bLT) (by decide) F87 P2) ((rU_fr U2 (by decide)).trans (bFr_sub F87 (by decide))) (by rw [show rN hp87 66 7 = rN hp2 66 7 from r_fr F87 rfl]; exact t22) (Or.inr ⟨g0, rfS_W S2 F87 (fun _ => rfl) rfl rfl (fun _ => rfl) (fun _ => rfl), by rw [e]; show _ = ((opC V T : Nat) : Int); omega⟩))
      · refine xtab 91 ⟨u260, _, rfl⟩ (o := 60) (by rw [e]; rfl) (by decide) ?_
        refine xald 92 ⟨u260, _, rfl⟩ rfl rfl ?_
        refine xcall 95 [.ref 66] [] hH22 ⟨u260, _, rfl⟩ rfl rfl rfl rfl rfl (k_261E hH22 hB (fun z92 hp92 hH92 F92 L92 Q92 h92 => ⟨_, rfl, ?_⟩))
        exact xret ⟨u260, _, rfl⟩ rfl (hR _ hp92 hH92 (P0_W (W := wLQE) (by decide) F92 P2) ((rU_fr U2 (by decide)).trans (bFr_sub F92 (by decide))) (by rw [show rN hp92 66 7 = rN hp2 66 7 from r_fr F92 rfl]; exact t22) (Or.inr ⟨g0, rfS_W S2 F92 (fun _ => rfl) rfl rfl (fun _ => rfl) (fun _ => rfl), by rw [e]; show _ = ((nQ T : Nat) : Int); omega⟩))
      · refine xtab 101 ⟨u260, _, rfl⟩ (o := 70) (by rw [e]; rfl) (by decide) ?_
        refine xald 102 ⟨u260, _, rfl⟩ rfl rfl ?_
        refine xgetR 105 67 hH22 ⟨u260, _, rfl⟩ rfl rfl ?_
        refine xcst 106 (1) ⟨u260, _, rfl⟩ rfl (by decide) (fun z105 h105 => ?_)
        refine xild 107 ⟨u260, _, rfl⟩ rfl rfl ?_
        refine xadd 108 _ ⟨u260, _, rfl⟩ rfl rfl (by omega) (by omega) (fun z107 h107 => ?_)
        refine xcst 109 (4) ⟨u260, _, rfl⟩ rfl (by decide) (fun z108 h108 => ?_)
        refine xsub 110 _ ⟨u260, _, rfl⟩ rfl rfl (by omega) (by omega) (fun z109 h109 => ?_)
        have hx109 : z109.toInt = ((1 : Nat) : Int) := by omega
        refine xiald 111 1 hH22 ⟨u260, _, rfl⟩ rfl (by decide) rfl (by omega) (by omega) (fun z110 h110 => ?_)
        exact xret ⟨u260, _, rfl⟩ rfl (hR _ hp2 hH22 P2 (rU_fr U2 (by decide)) t22 (Or.inr ⟨g0, S2, by rw [e]; show _ = ty 0; omega⟩))
      · refine xtab 101 ⟨u260, _, rfl⟩ (o := 70) (by rw [e]; rfl) (by decide) ?_
        refine xald 102 ⟨u260, _, rfl⟩ rfl rfl ?_
        refine xgetR 105 67 hH22 ⟨u260, _, rfl⟩ rfl rfl ?_
        refine xcst 106 (1) ⟨u260, _, rfl⟩ rfl (by decide) (fun z105 h105 => ?_)
        refine xild 107 ⟨u260, _, rfl⟩ rfl rfl ?_
        refine xadd 108 _ ⟨u260, _, rfl⟩ rfl rfl (by omega) (by omega) (fun z107 h107 => ?_)
        refine xcst 109 (4) ⟨u260, _, rfl⟩ rfl (by decide) (fun z108 h108 => ?_)
        refine xsub 110 _ ⟨u260, _, rfl⟩ rfl rfl (by omega) (by omega) (fun z109 h109 => ?_)
        have hx109 : z109.toInt = ((2 : Nat) : Int) := by omega
        refine xiald 111 2 hH22 ⟨u260, _, rfl⟩ rfl (by decide) rfl (by omega) (by omega) (fun z110 h110 => ?_)
        exact xret ⟨u260, _, rfl⟩ rfl (hR _ hp2 hH22 P2 (rU_fr U2 (by decide)) t22 (Or.inr ⟨g0, S2, by rw [e]; show _ = ty 1; omega⟩))
      · refine xtab 101 ⟨u260, _, rfl⟩ (o := 70) (by rw [e]; rfl) (by decide) ?_
        refine xald 102 ⟨u260, _, rfl⟩ rfl rfl ?_
        refine xgetR 105 67 hH22 ⟨u260, _, rfl⟩ rfl rfl ?_
        refine xcst 106 (1) ⟨u260, _, rfl⟩ rfl (by decide) (fun z105 h105 => ?_)
        refine xild 107 ⟨u260, _, rfl⟩ rfl rfl ?_
        refine xadd 108 _ ⟨u260, _, rfl⟩ rfl rfl (by omega) (by omega) (fun z107 h107 => ?_)
        refine xcst 109 (4) ⟨u260, _, rfl⟩ rfl (by decide) (fun z108 h108 => ?_)
        refine xsub 110 _ ⟨u260, _, rfl⟩ rfl rfl (by omega) (by omega) (fun z109 h109 => ?_)
        have hx109 : z109.toInt = ((3 : Nat) : Int) := by omega
        refine xiald 111 3 hH22 ⟨u260, _, rfl⟩ rfl (by decide) rfl (by omega) (by omega) (fun z110 h110 => ?_)
        exact xret ⟨u260, _, rfl⟩ rfl (hR _ hp2 hH22 P2 (rU_fr U2 (by decide)) t22 (Or.inr ⟨g0, S2, by rw [e]; show _ = ty 2; omega⟩))
      · refine xtab 96 ⟨u260, _, rfl⟩ (o := 65) (by rw [e]; rfl) (by decide) ?_
        refine xald 97 ⟨u260, _, rfl⟩ rfl rfl ?_
        refine xgetI 100 hH22 ⟨u260, _, rfl⟩ rfl rfl (fun z97 h97 => ?_)
        exact xret ⟨u260, _, rfl⟩ rfl (hR _ hp2 hH22 P2 (rU_fr U2 (by decide)) t22 (Or.inr ⟨g0, S2, by rw [e]; show _ = (n : Int); omega⟩))
    · rcases V22 with ⟨q1, -⟩ | ⟨q1, -⟩ <;> omega
  · refine xcst 17 (1) ⟨u260, _, rfl⟩ rfl (by decide) (fun z16 h16 => ?_)
    refine xgoto ⟨u260, _, rfl⟩ ?_
    refine xcst 22 (1) ⟨u260, _, rfl⟩ rfl (by decide) (fun z21 h21 => ?_)
    refine xcall 25 [.ref 66, .int _, .int _] [] hH2 ⟨u260, _, rfl⟩ rfl rfl rfl rfl rfl (k_failsE hH2 (by omega) (fun hp22 hH22 V22 => ⟨_, rfl, ?_⟩))
    refine xif_eq 28 ⟨u260, _, rfl⟩ rfl (fun c25 => ?_) (fun c25 => ?_)
    · rcases V22 with ⟨q1, -⟩ | ⟨q1, -⟩ <;> omega
    · refine xcst 29 (0) ⟨u260, _, rfl⟩ rfl (by decide) (fun z28 h28 => ?_)
      rcases V22 with ⟨q1, -⟩ | ⟨q1, U⟩
      · omega
      · have g1 : gCt a.toInt = 1 := by unfold gCt; rw [if_neg (by omega)]
        exact xret ⟨u260, _, rfl⟩ rfl (hR _ hp22 hH22 (P0_W (W := [(66, 7)]) (by decide) (rU_fr U rfl) P2) ((rU_fr U2 (by decide)).trans (rU_fr U (by decide))) (by rw [U.1, g1]; omega) (Or.inl ⟨by rw [g1]; decide, rfS_W (W := [(66, 7)]) S2 (rU_fr U rfl) (fun _ => rfl) rfl rfl (fun _ => rfl) (fun _ => rfl)⟩))
end
/-! ##### 43d ##### -/
section
/-! ===== count's helper ===== -/
theorem h348E {d : Nat} {hp : amH} {R : cQ} {x1 : Int32} {V n : Nat} {h : Nat → sR} {sv : Option sR} {T : sT} {ty : Nat → Int} (hI : lawI hp) (c : clS hp (V, T, ty) n h sv) (r : rfS hp (V, T, ty) n h sv)
    (hR : ∀ (z : Int32) hp1 mc ms, lawI hp1 → rfS hp1 (V, T, ty) n h sv → z.toInt = gCt x1.toInt → ((¬ gCt x1.toInt = 0 ∧ clS hp1 (V, T, ty) n h sv) ∨ (gCt x1.toInt = 0 ∧ clS hp1 (V, T, ty) n h sv ∧ rJ hp1 83 0 = ctV V T ty n x1.toInt)) → mc ≤ 1 → ms ≤ 6 → R (.inl (some (.int z))) hp1 mc ms) : cK (d + 20) 348 [.ref 0, .int x1, .ref 83] hp R := by
  refine cin (M := am_m348) rfl rfl rfl ?_
  refine cald 1 ⟨u348J, _, rfl⟩ rfl rfl ?_
  refine ccst 2 (0) ⟨u348J, _, rfl⟩ rfl (by decide) (fun z1 h1 => ?_)
  refine cald 3 ⟨u348J, _, rfl⟩ rfl rfl ?_
  refine cild 4 ⟨u348J, _, rfl⟩ rfl rfl ?_
  refine ccall (kd := 0) (t := 1) [.ref 0, .int _] [.int _, .ref 83] hI.1 ⟨u348J, _, rfl⟩ (Or.inl ⟨_, rfl, rfl, by decide, by decide⟩) rfl rfl rfl ⟨rfl, rfl, rfl⟩ rfl (recv0 hI.1 _) rfl (qKE (Φ := fun z hp1 => bHk 84 bTT hp1 ∧ cF hp hp1 ∧ gCt x1.toInt = 0 ∧ clS hp1 (V, T, ty) n h sv ∧ z.toInt = ctV V T ty n x1.toInt) (Ψ := fun E hp1 => lawI hp1 ∧ rfS hp1 (V, T, ty) n h sv ∧ clS hp1 (V, T, ty) n h sv ∧ ¬ gCt x1.toInt = 0 ∧ ((gCt x1.toInt = 1 ∧ E = 0))) (fun R g1 g2 => k_118E (d := d + 16) hI.1 c (fun e1 => g2 0 hp ⟨hI, r, c, (by rw [e1]; decide), ⟨e1, rfl⟩⟩) (fun z hp1 a1 a2 a3 a4 a5 => g1 z hp1 ⟨a1, a2, a3, a4, a5⟩)) (fun z hp1 φ => Or.inl ⟨_, rfl, ?_⟩) (fun E hp1 ψ => Or.inr ?_))
  · refine ci2lE 8 ⟨u348J, _, rfl⟩ rfl (fun w hw => ?_)
    refine clastE 9 φ.1 ⟨u348J, _, rfl⟩ rfl h1 (fun hp2 hH2 F2 J2 => ?_)
    refine cgoto ⟨u348J, _, rfl⟩ ?_
    refine ccst 16 (0) ⟨u348J, _, rfl⟩ rfl (by decide) (fun z9 h9 => ?_)
    exact cret ⟨u348J, _, rfl⟩ (Or.inl rfl) (hR _ _ _ _ (lawI_83 (law_cl hI φ.1 φ.2.1) hH2 F2) (rf_83 F2 (cF_rf φ.2.1 r)) (by rw [φ.2.2.1]; exact h9) (Or.inr ⟨φ.2.2.1, cl_83 F2 φ.2.2.2.1, by rw [J2, hw]; exact φ.2.2.2.2⟩) (by decide) (by decide))
  · obtain ⟨ψ0, ψr, ψc, ψ1, ψ2⟩ := ψ
    obtain ⟨ce, rfl⟩ := ψ2
    refine ⟨0, 12, 3, 13, rfl, rfl, rfl, rfl, ?_⟩
    refine ccst 14 (1) ⟨u348J, _, rfl⟩ rfl (by decide) (fun z9 h9 => ?_)
    exact cret ⟨u348J, _, rfl⟩ (Or.inl rfl) (hR _ _ _ _ ψ0 ψr (by rw [ce]; exact h9) (Or.inl ⟨ψ1, ψc⟩) (by decide) (by decide))
end
/-! ##### q8 ##### -/
section
/-! ===== isComplete on both sides ===== -/
def icV (V : Nat) (T : sT) : Int := if opC V T = 0 then 1 else 0
theorem u119 : bUp 0 am_m119.1 = true := by decide +kernel
theorem k_119E {d V n : Nat} {h : Nat → sR} {sv : Option sR} {T : sT} {ty : Nat → Int} {hp : amH} {R : xQ} (hH : bHk 84 bTT hp) (hS : clS hp (V, T, ty) n h sv)
    (hR : ∀ (z : Int32) hp1, bHk 84 bTT hp1 → cF hp hp1 → clS hp1 (V, T, ty) n h sv → z.toInt = icV V T → R (.inl (some (.int z))) hp1) : xK (d + 3) 119 [.ref 0] hp R := by
  have hB : bdOk hp 3 V T := hS.1
  have b0 : rN hp 3 0 = (V : Int) := hB.1
  have hL : lsN hp 3 T 225 := hS.2.1
  have b1 : rN hp 3 1 = (((trL T 225).length : Nat) : Int) := hL.1
  have hT0 : sOk V T := hB.2.1
  have h15 : V ≤ 15 := hT0.2.1
  have l35 : (trL T 225).length ≤ 35 := trL_35 hT0 225
  have nq0 : rN hp 49 0 = ((nQ T : Nat) : Int) := hS.2.2.1.1
  refine xin (M := am_m119) rfl rfl rfl ?_
  refine xald 1 ⟨u119, _, rfl⟩ rfl rfl ?_
  refine xgetD 4 (3) hH ⟨u119, _, rfl⟩ rfl (by decide) (by decide) rfl rfl (by decide) ?_
  refine xcallC 7 (o := 3) [] [] hH ⟨u119, _, rfl⟩ rfl rfl (by decide) rfl (by decide) rfl ⟨rfl, rfl, rfl, rfl⟩ rfl (k_23E (o := 3) (Or.inl rfl) hH hB (fun z4 h4 => ⟨_, rfl, ?_⟩))
  refine xif_ne 10 ⟨u119, _, rfl⟩ rfl (fun c7 => ?_) (fun c7 => ?_)
  · refine xcst 15 (0) ⟨u119, _, rfl⟩ rfl (by decide) (fun z14 h14 => ?_)
    exact xretB ⟨u119, _, rfl⟩ rfl (by omega) (hR _ _ hH cF.refl hS (by unfold icV; rw [if_neg (by omega)]; omega))
  · refine xcst 11 (1) ⟨u119, _, rfl⟩ rfl (by decide) (fun z10 h10 => ?_)
    refine xgoto ⟨u119, _, rfl⟩ ?_
    exact xretB ⟨u119, _, rfl⟩ rfl (by omega) (hR _ _ hH cF.refl hS (by unfold icV; rw [if_pos (by omega)]; omega))
theorem k_262E {d V : Nat} {T : sT} {hp : amH} {R : xQ} (hH : bHk 84 bTT hp) (hP : P0 hp) (hB : rdOk hp V T)
    (hR : ∀ (z : Int32) hp1, bHk 84 bTT hp1 → bFr bLT hp hp1 → rdOk hp1 V T → rlN hp1 T 225 → z.toInt = icV V T → R (.inl (some (.int z))) hp1) : xK (d + 4) 262 [.ref 66] hp R := by
  refine xin (M := am_m262) rfl rfl rfl ?_
  refine xald 1 ⟨u262, _, rfl⟩ rfl rfl ?_
  refine xcall 4 [.ref 66] [] hH ⟨u262, _, rfl⟩ rfl rfl rfl rfl rfl (k_215E hH hP hB (fun z1 hp1 hH1 F1 B1 L1 h1 => ⟨_, rfl, ?_⟩))
  refine xif_ne 7 ⟨u262, _, rfl⟩ rfl (fun c4 => ?_) (fun c4 => ?_)
  · refine xcst 12 (0) ⟨u262, _, rfl⟩ rfl (by decide) (fun z11 h11 => ?_)
    exact xretB ⟨u262, _, rfl⟩ rfl (by omega) (hR _ _ hH1 F1 B1 L1 (by unfold icV; rw [if_neg (by omega)]; omega))
  · refine xcst 8 (1) ⟨u262, _, rfl⟩ rfl (by decide) (fun z7 h7 => ?_)
    refine xgoto ⟨u262, _, rfl⟩ ?_
    exact xretB ⟨u262, _, rfl⟩ rfl (by omega) (hR _ _ hH1 F1 B1 L1 (by unfold icV; rw [if_pos (by omega)]; omega))
theorem u263 : bUp 0 am_m263.1 = true := by decide +kernel
theorem k_263E {d V n : Nat} {h : Nat → sR} {sv : Option sR} {T : sT} {ty : Nat → Int} {hp : amH} {R : xQ} (hH : bHk 84 bTT hp) (hP : P0 hp) (hS : rfS hp (V, T, ty) n h sv)
    (hR : ∀ (z : Int32) hp1, bHk 84 bTT hp1 → P0 hp1 → bFr wM hp hp1 → rfS hp1 (V, T, ty) n h sv → z.toInt = icV V T → R (.inl (some (.int z))) hp1) : xK (d + 5) 263 [.ref 66] hp R := by
  have hB : rdOk hp V T := rowOk_rd hS.1
  have b0 : rN hp 67 0 = (V : Int) := hB.1
  have hT0 : sOk V T := hB.2.1
  have h15 : V ≤ 15 := hT0.2.1
  have l35 : (trL T 225).length ≤ 35 := trL_35 hT0 225
  refine xin (M := am_m263) rfl rfl rfl ?_
  refine xald 1 ⟨u263, _, rfl⟩ rfl rfl ?_
  refine xcst 2 (0) ⟨u263, _, rfl⟩ rfl (by decide) (fun z1 h1 => ?_)
  refine xputI 5 hH ⟨u263, _, rfl⟩ rfl rfl ⟨rfl, rfl⟩ (by omega) (by omega) (fun hp2 hH2 U2 => ?_)
  have s2 := U2.1
  have S2 := rfS_W (W := [(66, 7)]) hS (rU_fr U2 rfl) (fun _ => rfl) rfl rfl (fun _ => rfl) (fun _ => rfl)
  have P2 := P0_W (W := [(66, 7)]) (by decide) (rU_fr U2 rfl) hP
  refine xald 6 ⟨u263, _, rfl⟩ rfl rfl ?_
  refine xcall 9 [.ref 66] [] hH2 ⟨u263, _, rfl⟩ rfl rfl rfl rfl rfl (k_262E hH2 P2 (show rdOk hp2 V T from rowOk_rd S2.1) (fun z6 hp6 hH6 F6 B6 L6 h6 => ⟨_, rfl, ?_⟩))
  exact xretB ⟨u263, _, rfl⟩ rfl (by rw [h6]; unfold icV; split <;> simp) (hR _ _ hH6 (P0_W (W := bLT) (by decide) F6 P2) ((rU_fr U2 (by decide)).trans (bFr_sub F6 (by decide))) (rfS_W S2 F6 (fun _ => rfl) rfl rfl (fun _ => rfl) (fun _ => rfl)) h6)
end
/-! ##### qm26 ##### -/
section
/-! ===== how many triples meet a set ===== -/
def mtC (T : sT) (m : Nat) (c : Int) (t : Nat) : Nat := sm (fun s => iv (c ≤ bcN (mN T s &&& m))) t
theorem mtC_le {T : sT} {m : Nat} {c : Int} : ∀ t, mtC T m c t ≤ t
  | 0 => Nat.le_refl _
  | t + 1 => by
    have h1 := mtC_le (T := T) (m := m) (c := c) t
    have h2 : iv (c ≤ bcN (mN T t &&& m)) ≤ 1 := iv_le
    show mtC T m c t + iv (c ≤ bcN (mN T t &&& m)) ≤ t + 1
    omega
theorem mtC_s {T : sT} {m : Nat} {c : Int} {t : Nat} : mtC T m c (t + 1) = mtC T m c t + iv (c ≤ bcN (mN T t &&& m)) := rfl
theorem u26 : bUp 0 am_m26.1 = true := by decide +kernel
theorem l26E {d m V : Nat} {T : sT} {hp : amH} {R : xQ} {s wc : Int32} (hT : sOk V T) (hH : bHk 84 bTT hp) (hL : lsN hp 3 T 225) (hs : s.toInt = (m : Int)) (hm : m < 32768)
    (hR : ∀ z : Int32, z.toInt = ((mtC T m wc.toInt (trL T 225).length : Nat) : Int) → R (.inl (some (.int z))) hp) :
    ∀ (jj t : Nat) (w wt : Int32), wt.toInt = (t : Int) → t + jj = (trL T 225).length → w.toInt = ((mtC T m wc.toInt t : Nat) : Int) → xV (d + 1) am_m26 5 [some (.ref 3), some (.int s), some (.int wc), some (.int w), some (.int wt)] [] hp R := by
  have l35 := trL_35 hT 225
  have L1 := hL.1
  intro jj
  induction jj with
  | zero =>
    intro t w wt hwt hj hw
    have et : (trL T 225).length = t := by omega
    have hR2 : ∀ z : Int32, z.toInt = ((mtC T m wc.toInt t : Nat) : Int) → R (.inl (some (.int z))) hp := by rw [← et]; exact hR
    refine xild2 7 ⟨u26, _, rfl⟩ rfl rfl ?_
    refine xald 8 ⟨u26, _, rfl⟩ rfl rfl ?_
    refine xgetC 11 hH ⟨u26, _, rfl⟩ rfl (by decide) (by decide) rfl rfl (by decide) (fun z8 h8 => ?_)
    refine xcmp_ge 14 ⟨u26, _, rfl⟩ rfl (fun c11 => ?_) (fun c11 => ?_)
    · refine xild 39 ⟨u26, _, rfl⟩ rfl rfl ?_
      exact xret ⟨u26, _, rfl⟩ rfl (hR2 _ hw)
    · omega
  | succ jj ih =>
    intro t w wt hwt hj hw
    have k2 := mtC_le (T := T) (m := m) (c := wc.toInt) t
    have ml := (mN_lt hT (show t < (trL T 225).length by omega)).1
    have k3 := mtC_s (T := T) (m := m) (c := wc.toInt) (t := t)
    refine xild2 7 ⟨u26, _, rfl⟩ rfl rfl ?_
    refine xald 8 ⟨u26, _, rfl⟩ rfl rfl ?_
    refine xgetC 11 hH ⟨u26, _, rfl⟩ rfl (by decide) (by decide) rfl rfl (by decide) (fun z8 h8 => ?_)
    refine xcmp_ge 14 ⟨u26, _, rfl⟩ rfl (fun c11 => ?_) (fun c11 => ?_)
    · omega
    · refine xald 15 ⟨u26, _, rfl⟩ rfl rfl ?_
      refine xild2 17 ⟨u26, _, rfl⟩ rfl rfl ?_
      refine xcallC 20 (o := 3) [.int _] [] hH ⟨u26, _, rfl⟩ rfl rfl (by decide) rfl (by decide) rfl ⟨rfl, rfl, rfl, rfl⟩ rfl (k_setL hH hL (t := t) hwt (by omega) (fun z17 h17 => ⟨_, rfl, ?_⟩))
      refine xild 21 ⟨u26, _, rfl⟩ rfl rfl ?_
      refine xand 22 ⟨u26, _, rfl⟩ rfl ?_
      refine xcallS 25 [.int _] [] hH ⟨u26, _, rfl⟩ rfl rfl rfl rfl rfl (k_bc (i_and h17 hs ml).1 (fun z22 h22 => ⟨_, rfl, ?_⟩))
      refine xild 26 ⟨u26, _, rfl⟩ rfl rfl ?_
      refine xcmp_lt 29 ⟨u26, _, rfl⟩ rfl (fun c26 => ?_) (fun c26 => ?_)
      · refine xinc 35 (1) ⟨u26, _, rfl⟩ rfl rfl rfl (by decide) (by omega) (by omega) (fun z32 h32 => ?_)
        refine xgoto ⟨u26, _, rfl⟩ ?_
        exact ih (t + 1) _ _ (by omega) (by omega) (by rw [k3, iv_f (p := wc.toInt ≤ bcN (mN T t &&& m)) (by omega)]; omega)
      · refine xinc 32 (1) ⟨u26, _, rfl⟩ rfl rfl rfl (by decide) (by omega) (by omega) (fun z29 h29 => ?_)
        refine xinc 35 (1) ⟨u26, _, rfl⟩ rfl rfl rfl (by decide) (by omega) (by omega) (fun z32 h32 => ?_)
        refine xgoto ⟨u26, _, rfl⟩ ?_
        exact ih (t + 1) _ _ (by omega) (by omega) (by rw [k3, iv_t (p := wc.toInt ≤ bcN (mN T t &&& m)) (by omega)]; omega)
theorem k_26E {d m V : Nat} {T : sT} {hp : amH} {R : xQ} {s wc : Int32} (hT : sOk V T) (hH : bHk 84 bTT hp) (hL : lsN hp 3 T 225) (hs : s.toInt = (m : Int)) (hm : m < 32768)
    (hR : ∀ z : Int32, z.toInt = ((mtC T m wc.toInt (trL T 225).length : Nat) : Int) → R (.inl (some (.int z))) hp) : xK (d + 1) 26 [.ref 3, .int s, .int wc] hp R := by
  refine xin (M := am_m26) rfl rfl rfl ?_
  refine xcst 1 (0) ⟨u26, _, rfl⟩ rfl (by decide) (fun z0 h0 => ?_)
  refine xist 2 ⟨u26, _, rfl⟩ rfl rfl ?_
  refine xcst 3 (0) ⟨u26, _, rfl⟩ rfl (by decide) (fun z2 h2 => ?_)
  refine xist2 5 ⟨u26, _, rfl⟩ rfl rfl ?_
  exact l26E hT hH hL hs hm hR (trL T 225).length 0 _ _ h2 (by omega) h0
end
/-! ##### qm3 ##### -/
section
/-! ===== triples that meet a set of three points twice ===== -/
theorem bc_3s {a b c M : Nat} (h1 : a < b) (h2 : b < c) (h3 : c < 15) : bcN (M &&& m3 a b c) = ((M.testBit a).toNat + (M.testBit b).toNat + (M.testBit c).toNat : Nat) := by
  rw [Nat.and_comm]
  exact bc_and h1 h2 h3
theorem m3_ext {a b c x y z : Nat} (h : ∀ i, (i = a ∨ i = b ∨ i = c) ↔ (i = x ∨ i = y ∨ i = z)) : m3 a b c = m3 x y z := by
  apply Nat.eq_of_testBit_eq
  intro i
  rw [m3_test, m3_test]
  exact decide_eq_decide.mpr (h i)
theorem bc_3 {a b c M : Nat} (ha : a < 15) (hb : b < 15) (hc : c < 15) (hab : ¬ a = b) (hbc : ¬ b = c) (hac : ¬ a = c) : bcN (M &&& m3 a b c) = ((M.testBit a).toNat + (M.testBit b).toNat + (M.testBit c).toNat : Nat) := by
  have sp : (a < b ∧ b < c) ∨ (a < c ∧ c < b) ∨ (b < a ∧ a < c) ∨ (b < c ∧ c < a) ∨ (c < a ∧ a < b) ∨ (c < b ∧ b < a) := by omega
  rcases sp with s | s | s | s | s | s
  · rw [bc_3s s.1 s.2 hc]
  · rw [m3_ext (x := a) (y := c) (z := b) (fun i => by omega), bc_3s s.1 s.2 hb]; congr 1; omega
  · rw [m3_ext (x := b) (y := a) (z := c) (fun i => by omega), bc_3s s.1 s.2 hc]; congr 1; omega
  · rw [m3_ext (x := b) (y := c) (z := a) (fun i => by omega), bc_3s s.1 s.2 ha]; congr 1; omega
  · rw [m3_ext (x := c) (y := a) (z := b) (fun i => by omega), bc_3s s.1 s.2 hb]; congr 1; omega
  · rw [m3_ext (x := c) (y := b) (z := a) (fun i => by omega), bc_3s s.1 s.2 ha]; congr 1; omega
theorem two_3 : ∀ p q r : Bool, (2 : Int) ≤ ((p.toNat + q.toNat + r.toNat : Nat) : Int) ↔ ((p = true ∧ q = true) ∨ (q = true ∧ r = true) ∨ (p = true ∧ r = true)) := by decide
theorem on_cnt {V : Nat} {T : sT} (hT : sOk V T) {u v : Nat} (huv : ¬ u = v) : ((sm (fun t => iv (onL T t u ∧ onL T t v)) (trL T 225).length : Nat) : Int) = cvT T u v := by
  unfold cvT
  by_cases g : T u v = -1
  · rw [if_pos g, sm_none (fun t ht => iv_f (p := onL T t u ∧ onL T t v) (fun z => (on_T hT ht z.1 z.2 huv).1 g))]
    rfl
  · obtain ⟨w, -, -, -, -, -, -, -, -, k1, -, k2, k3, -⟩ := li_s hT g
    rw [if_neg g, sm_one (f := fun t => iv (onL T t u ∧ onL T t v)) k1 (iv_t (p := onL T (li T u v) u ∧ onL T (li T u v) v) ⟨k2, k3⟩) (fun t ht hne => iv_f (p := onL T t u ∧ onL T t v) (fun z => hne (on_1 hT ht k1 huv z.1 z.2 k2 k3)))]
    rfl
/-- how many triples have two points or more of a set of three -/
def iwV (T : sT) (a b c : Nat) : Int := if T a b = (c : Int) then 1 else cvT T a b + cvT T b c + cvT T a c
theorem mt_3 {V : Nat} {T : sT} (hT : sOk V T) {a b c : Nat} (ha : a < V) (hb : b < V) (hc : c < V) (hab : ¬ a = b) (hbc : ¬ b = c) (hac : ¬ a = c) : ((mtC T (m3 a b c) 2 (trL T 225).length : Nat) : Int) = iwV T a b c := by
  have h15 := hT.2.1
  have e : ∀ t, (2 : Int) ≤ bcN (mN T t &&& m3 a b c) ↔ ((onL T t a ∧ onL T t b) ∨ (onL T t b ∧ onL T t c) ∨ (onL T t a ∧ onL T t c)) := by
    intro t
    rw [bc_3 (by omega) (by omega) (by omega) hab hbc hac]
    exact two_3 _ _ _
  have e1 : mtC T (m3 a b c) 2 (trL T 225).length = sm (fun t => iv ((onL T t a ∧ onL T t b) ∨ (onL T t b ∧ onL T t c) ∨ (onL T t a ∧ onL T t c))) (trL T 225).length := by
    unfold mtC
    exact sm_ext _ (fun t _ => iv_eq (e t))
  rw [e1]
  unfold iwV
  by_cases h : T a b = (c : Int)
  · rw [if_pos h]
    obtain ⟨w, ew, -, -, -, -, -, -, -, k1, -, k2, k3, k4⟩ := li_s hT (u := a) (v := b) (by omega)
    have ewc : w = c := by omega
    subst ewc
    rw [sm_one (f := fun t => iv ((onL T t a ∧ onL T t b) ∨ (onL T t b ∧ onL T t w) ∨ (onL T t a ∧ onL T t w))) k1 (iv_t (Or.inl ⟨k2, k3⟩)) (fun t ht hne => iv_f (fun z => hne (by
      rcases z with z | z | z
      · exact on_1 hT ht k1 hab z.1 z.2 k2 k3
      · exact on_1 hT ht k1 hbc z.1 z.2 k3 k4
      · exact on_1 hT ht k1 hac z.1 z.2 k2 k4)))]
    rfl
  · rw [if_neg h]
    have e2 : sm (fun t => iv ((onL T t a ∧ onL T t b) ∨ (onL T t b ∧ onL T t c) ∨ (onL T t a ∧ onL T t c))) (trL T 225).length = sm (fun t => iv (onL T t a ∧ onL T t b)) (trL T 225).length + (sm (fun t => iv (onL T t b ∧ onL T t c)) (trL T 225).length + sm (fun t => iv (onL T t a ∧ onL T t c)) (trL T 225).length) := by
      rw [← sm_add, ← sm_add]
      refine sm_ext _ (fun t ht => ?_)
      have no : ¬ (onL T t a ∧ onL T t b ∧ onL T t c) := fun z => h (on_3 hT ht z.1 z.2.1 z.2.2 hab hac hbc)
      rw [iv_or (fun z => no ⟨z.1.1, z.1.2, z.2.elim (fun y => y.2) (fun y => y.2)⟩), iv_or (fun z => no ⟨z.2.1, z.1.1, z.1.2⟩)]
    have c1 := on_cnt hT hab
    have c2 := on_cnt hT hbc
    have c3 := on_cnt hT hac
    rw [e2]
    omega
end
/-! ##### q9 ##### -/
section
/-! ===== triple on both sides ===== -/
def gTr (T : sT) (a b : Int) : Int := if gTri (trL T 225).length a = 0 then (if 0 ≤ b ∧ b ≤ 2 then 0 else 2) else 1
theorem gTr_0 {T : sT} {a b : Int} : gTr T a b = 0 ↔ gTri (trL T 225).length a = 0 ∧ 0 ≤ b ∧ b ≤ 2 := by
  unfold gTr
  split
  · next g => split <;> simp_all
  · next g => simp [g]
theorem gTr_1 {T : sT} {a b : Int} (h : ¬ gTri (trL T 225).length a = 0) : gTr T a b = 1 := by unfold gTr; rw [if_neg h]
theorem gTr_2 {T : sT} {a b : Int} (h : gTri (trL T 225).length a = 0) (h2 : ¬ (0 ≤ b ∧ b ≤ 2)) : gTr T a b = 2 := by unfold gTr; rw [if_pos h, if_neg h2]
theorem u120 : bUp 0 am_m120.1 = true := by decide +kernel
theorem k_120E {d V n : Nat} {h : Nat → sR} {sv : Option sR} {T : sT} {ty : Nat → Int} {hp : amH} {R : xQ} {a b : Int32} (hH : bHk 84 bTT hp) (hS : clS hp (V, T, ty) n h sv)
    (hT : ∀ E hp1, bHk 84 bTT hp1 → cF hp hp1 → clS hp1 (V, T, ty) n h sv → ¬ gTr T a.toInt b.toInt = 0 → ((gTr T a.toInt b.toInt = 1 ∧ E = 1) ∨ (gTr T a.toInt b.toInt = 2 ∧ E = 0)) → R (.inr E) hp1)
    (hR : ∀ (z : Int32) hp1, bHk 84 bTT hp1 → cF hp hp1 → gTr T a.toInt b.toInt = 0 → clS hp1 (V, T, ty) n h sv → z.toInt = memN (mN T a.toInt.toNat) b.toInt.toNat → R (.inl (some (.int z))) hp1) : xK (d + 4) 120 [.ref 0, .int a, .int b] hp R := by
  have hB : bdOk hp 3 V T := hS.1
  have b0 : rN hp 3 0 = (V : Int) := hB.1
  have hL : lsN hp 3 T 225 := hS.2.1
  have b1 : rN hp 3 1 = (((trL T 225).length : Nat) : Int) := hL.1
  have hT0 : sOk V T := hB.2.1
  have h15 : V ≤ 15 := hT0.2.1
  have l35 : (trL T 225).length ≤ 35 := trL_35 hT0 225
  have nq0 : rN hp 49 0 = ((nQ T : Nat) : Int) := hS.2.2.1.1
  refine xin (M := am_m120) rfl rfl rfl ?_
  refine xald 1 ⟨u120, _, rfl⟩ rfl rfl ?_
  refine xild 2 ⟨u120, _, rfl⟩ rfl rfl ?_
  refine xcallT 5 (o := 0) [.int _] [] hH ⟨u120, _, rfl⟩ rfl rfl (by decide) rfl (by decide) rfl ⟨rfl, rfl, rfl, rfl⟩ rfl (k_rqt hH b1 (fun g2 => Or.inl ⟨_, rfl, ?_⟩) (fun g2 => Or.inr ⟨_, rfl, rfl, hT _ hp hH cF.refl hS (by rw [gTr_1 (by omega)]; decide) (Or.inl ⟨gTr_1 (by omega), rfl⟩)⟩))
  have k2 := gTri_0.mp g2
  refine xild 6 ⟨u120, _, rfl⟩ rfl rfl ?_
  refine xif_lt 9 ⟨u120, _, rfl⟩ rfl (fun c6 => ?_) (fun c6 => ?_)
  · exact xthr ⟨u120, _, rfl⟩ (by decide) rfl (by decide) (hT _ hp hH cF.refl hS (by rw [gTr_2 g2 (by omega)]; decide) (Or.inr ⟨gTr_2 g2 (by omega), rfl⟩))
  · refine xild 10 ⟨u120, _, rfl⟩ rfl rfl ?_
    refine xcst 11 (2) ⟨u120, _, rfl⟩ rfl (by decide) (fun z10 h10 => ?_)
    refine xcmp_le 14 ⟨u120, _, rfl⟩ rfl (fun c11 => ?_) (fun c11 => ?_)
    · refine xald 25 ⟨u120, _, rfl⟩ rfl rfl ?_
      refine xgetD 28 (3) hH ⟨u120, _, rfl⟩ rfl (by decide) (by decide) rfl rfl (by decide) ?_
      refine xild 29 ⟨u120, _, rfl⟩ rfl rfl ?_
      refine xcallC 32 (o := 3) [.int _] [] hH ⟨u120, _, rfl⟩ rfl rfl (by decide) rfl (by decide) rfl ⟨rfl, rfl, rfl, rfl⟩ rfl (k_setL hH hL (t := a.toInt.toNat) (by omega) (by omega) (fun z29 h29 => ⟨_, rfl, ?_⟩))
      refine xild 33 ⟨u120, _, rfl⟩ rfl rfl ?_
      refine xcallS 36 [.int _, .int _] [] hH ⟨u120, _, rfl⟩ rfl rfl rfl rfl rfl (k_mem hH h29 (mN_lt hT0 (show a.toInt.toNat < (trL T 225).length by omega)).1 (i := b.toInt.toNat) (by omega) (fun z33 h33 => ⟨_, rfl, ?_⟩))
      exact xret ⟨u120, _, rfl⟩ rfl (hR _ _ hH cF.refl (gTr_0.mpr ⟨g2, by omega, by omega⟩) hS h33)
    · exact xthr ⟨u120, _, rfl⟩ (by decide) rfl (by decide) (hT _ hp hH cF.refl hS (by rw [gTr_2 g2 (by omega)]; decide) (Or.inr ⟨gTr_2 g2 (by omega), rfl⟩))
theorem u264 : bUp 0 am_m264.1 = true := by decide +kernel
theorem k_264E {d V n : Nat} {h : Nat → sR} {sv : Option sR} {T : sT} {ty : Nat → Int} {hp : amH} {R : xQ} {a b : Int32} (hH : bHk 84 bTT hp) (hP : P0 hp) (hS : rfS hp (V, T, ty) n h sv)
    (hR : ∀ (z : Int32) hp1, bHk 84 bTT hp1 → P0 hp1 → bFr wM hp hp1 → rN hp1 66 7 = gTr T a.toInt b.toInt → ((¬ gTr T a.toInt b.toInt = 0 ∧ rfS hp1 (V, T, ty) n h sv) ∨ (gTr T a.toInt b.toInt = 0 ∧ rfS hp1 (V, T, ty) n h sv ∧ z.toInt = memN (mN T a.toInt.toNat) b.toInt.toNat)) → R (.inl (some (.int z))) hp1) : xK (d + 4) 264 [.ref 66, .int a, .int b] hp R := by
  have hB : rdOk hp V T := rowOk_rd hS.1
  have b0 : rN hp 67 0 = (V : Int) := hB.1
  have hT0 : sOk V T := hB.2.1
  have h15 : V ≤ 15 := hT0.2.1
  have l35 : (trL T 225).length ≤ 35 := trL_35 hT0 225
  refine xin (M := am_m264) rfl rfl rfl ?_
  refine xald 1 ⟨u264, _, rfl⟩ rfl rfl ?_
  refine xild 2 ⟨u264, _, rfl⟩ rfl rfl ?_
  refine xcall 5 [.ref 66, .int _] [] hH ⟨u264, _, rfl⟩ rfl rfl rfl rfl rfl (k_gpt hH hB (fun z2 hp2 hH2 F2 B2 L2 t2 o2 => ⟨_, rfl, ?_⟩))
  have S2 := rfS_W hS F2 (fun _ => rfl) rfl rfl (fun _ => rfl) (fun _ => rfl)
  have P2 : P0 hp2 := P0_W (W := (66, 7) :: bLT) (by decide) F2 hP
  refine xif_ne 8 ⟨u264, _, rfl⟩ rfl (fun c5 => ?_) (fun c5 => ?_)
  · refine xcst 31 (0) ⟨u264, _, rfl⟩ rfl (by decide) (fun z30 h30 => ?_)
    exact xret ⟨u264, _, rfl⟩ rfl (hR _ hp2 hH2 P2 (bFr_sub F2 (by decide)) (by rw [t2, gTr_1 (by omega)]; omega) (Or.inl ⟨by rw [gTr_1 (by omega)]; decide, S2⟩))
  · have g2 : gTri (trL T 225).length a.toInt = 0 := by omega
    have k2 := gTri_0.mp g2
    refine xald 9 ⟨u264, _, rfl⟩ rfl rfl ?_
    refine xild 10 ⟨u264, _, rfl⟩ rfl rfl ?_
    refine xcst 11 (0) ⟨u264, _, rfl⟩ rfl (by decide) (fun z10 h10 => ?_)
    refine xcst 12 (2) ⟨u264, _, rfl⟩ rfl (by decide) (fun z11 h11 => ?_)
    refine xcallS 15 [.int _, .int _, .int _] [.ref 66] hH2 ⟨u264, _, rfl⟩ rfl rfl rfl rfl rfl (k_inr (fun z12 h12 => ⟨_, rfl, ?_⟩))
    refine xif_ne 18 ⟨u264, _, rfl⟩ rfl (fun c15 => ?_) (fun c15 => ?_)
    · refine xcst 23 (0) ⟨u264, _, rfl⟩ rfl (by decide) (fun z22 h22 => ?_)
      refine xcst 24 (2) ⟨u264, _, rfl⟩ rfl (by decide) (fun z23 h23 => ?_)
      refine xcall 27 [.ref 66, .int _, .int _] [] hH2 ⟨u264, _, rfl⟩ rfl rfl rfl rfl rfl (k_failsE hH2 (by omega) (fun hp24 hH24 V24 => ⟨_, rfl, ?_⟩))
      refine xif_eq 30 ⟨u264, _, rfl⟩ rfl (fun c27 => ?_) (fun c27 => ?_)
      · have hpe : hp2 = hp24 := by
          rcases V24 with ⟨q1, e⟩ | ⟨q1, -⟩
          · exact e.symm
          · omega
        subst hpe
        have g0 : gTr T a.toInt b.toInt = 0 := gTr_0.mpr ⟨g2, by omega, by omega⟩
        obtain ⟨r1, r2, r3⟩ := L2.2 a.toInt.toNat (by omega)
        obtain ⟨q1, q2, q3⟩ := trL_get 225 a.toInt.toNat (show a.toInt.toNat < (trL T 225).length by omega)
        obtain ⟨w, ew, x1, x2, x3⟩ := tr_pts hT0 q1
        have em : mN T a.toInt.toNat = m3 ((trL T 225).getD a.toInt.toNat 0 / 15) ((trL T 225).getD a.toInt.toNat 0 % 15) w := by unfold mN mk3; rw [ew, Int.toNat_natCast]
        obtain ⟨m0, m1, m2⟩ := mem3 x1 x2 (show w < 15 by omega)
        refine xild 33 ⟨u264, _, rfl⟩ rfl rfl ?_
        refine xif_ne 36 ⟨u264, _, rfl⟩ rfl (fun c33 => ?_) (fun c33 => ?_)
        · refine xild 46 ⟨u264, _, rfl⟩ rfl rfl ?_
          refine xcst 47 (1) ⟨u264, _, rfl⟩ rfl (by decide) (fun z46 h46 => ?_)
          refine xcmp_ne 50 ⟨u264, _, rfl⟩ rfl (fun c47 => ?_) (fun c47 => ?_)
          · refine xald 60 ⟨u264, _, rfl⟩ rfl rfl ?_
            refine xgetR 63 74 hH24 ⟨u264, _, rfl⟩ rfl rfl ?_
            refine xild 64 ⟨u264, _, rfl⟩ rfl rfl ?_
            refine xiald 65 (a).toInt.toNat hH24 ⟨u264, _, rfl⟩ rfl (by decide) rfl (by omega) (by omega) (fun z64 h64 => ?_)
            exact xret ⟨u264, _, rfl⟩ rfl (hR _ hp2 hH24 P2 (bFr_sub F2 (by decide)) (by rw [t2, g0]; exact g2) (Or.inr ⟨g0, S2, by rw [show b.toInt.toNat = 2 by omega, em, m2, h64]; exact r3.1.trans ew⟩))
          · refine xald 51 ⟨u264, _, rfl⟩ rfl rfl ?_
            refine xgetR 54 73 hH24 ⟨u264, _, rfl⟩ rfl rfl ?_
            refine xild 55 ⟨u264, _, rfl⟩ rfl rfl ?_
            refine xiald 56 (a).toInt.toNat hH24 ⟨u264, _, rfl⟩ rfl (by decide) rfl (by omega) (by omega) (fun z55 h55 => ?_)
            refine xgoto ⟨u264, _, rfl⟩ ?_
            exact xret ⟨u264, _, rfl⟩ rfl (hR _ hp2 hH24 P2 (bFr_sub F2 (by decide)) (by rw [t2, g0]; exact g2) (Or.inr ⟨g0, S2, by rw [show b.toInt.toNat = 1 by omega, em, m1, h55]; exact r2⟩))
        · refine xald 37 ⟨u264, _, rfl⟩ rfl rfl ?_
          refine xgetR 40 72 hH24 ⟨u264, _, rfl⟩ rfl rfl ?_
          refine xild 41 ⟨u264, _, rfl⟩ rfl rfl ?_
          refine xiald 42 (a).toInt.toNat hH24 ⟨u264, _, rfl⟩ rfl (by decide) rfl (by omega) (by omega) (fun z41 h41 => ?_)
          refine xgoto ⟨u264, _, rfl⟩ ?_
          exact xret ⟨u264, _, rfl⟩ rfl (hR _ hp2 hH24 P2 (bFr_sub F2 (by decide)) (by rw [t2, g0]; exact g2) (Or.inr ⟨g0, S2, by rw [show b.toInt.toNat = 0 by omega, em, m0, h41]; exact r1⟩))
      · rcases V24 with ⟨q1, -⟩ | ⟨q1, -⟩ <;> omega
    · refine xcst 19 (1) ⟨u264, _, rfl⟩ rfl (by decide) (fun z18 h18 => ?_)
      refine xgoto ⟨u264, _, rfl⟩ ?_
      refine xcst 24 (2) ⟨u264, _, rfl⟩ rfl (by decide) (fun z23 h23 => ?_)
      refine xcall 27 [.ref 66, .int _, .int _] [] hH2 ⟨u264, _, rfl⟩ rfl rfl rfl rfl rfl (k_failsE hH2 (by omega) (fun hp24 hH24 V24 => ⟨_, rfl, ?_⟩))
      refine xif_eq 30 ⟨u264, _, rfl⟩ rfl (fun c27 => ?_) (fun c27 => ?_)
      · rcases V24 with ⟨q1, -⟩ | ⟨q1, -⟩ <;> omega
      · refine xcst 31 (0) ⟨u264, _, rfl⟩ rfl (by decide) (fun z30 h30 => ?_)
        rcases V24 with ⟨q1, -⟩ | ⟨q1, U⟩
        · omega
        · have g1 := gTr_2 (T := T) g2 (show ¬ (0 ≤ b.toInt ∧ b.toInt ≤ 2) by omega)
          exact xret ⟨u264, _, rfl⟩ rfl (hR _ hp24 hH24 (P0_W (W := [(66, 7)]) (by decide) (rU_fr U rfl) P2) ((bFr_sub F2 (by decide)).trans (rU_fr U (by decide))) (by rw [U.1, g1]; omega) (Or.inl ⟨by rw [g1]; decide, rfS_W (W := [(66, 7)]) S2 (rU_fr U rfl) (fun _ => rfl) rfl rfl (fun _ => rfl) (fun _ => rfl)⟩))
theorem h349E {d : Nat} {hp : amH} {R : cQ} {x1 x2 : Int32} {V n : Nat} {h : Nat → sR} {sv : Option sR} {T : sT} {ty : Nat → Int} (hI : lawI hp) (c : clS hp (V, T, ty) n h sv) (r : rfS hp (V, T, ty) n h sv)
    (hR : ∀ (z : Int32) hp1 mc ms, lawI hp1 → rfS hp1 (V, T, ty) n h sv → z.toInt = gTr T x1.toInt x2.toInt → ((¬ gTr T x1.toInt x2.toInt = 0 ∧ clS hp1 (V, T, ty) n h sv) ∨ (gTr T x1.toInt x2.toInt = 0 ∧ clS hp1 (V, T, ty) n h sv ∧ rJ hp1 83 0 = memN (mN T x1.toInt.toNat) x2.toInt.toNat)) → mc ≤ 1 → ms ≤ 6 → R (.inl (some (.int z))) hp1 mc ms) : cK (d + 20) 349 [.ref 0, .int x1, .int x2, .ref 83] hp R := by
  refine cin (M := am_m349) rfl rfl rfl ?_
  refine cald 1 ⟨u349J, _, rfl⟩ rfl rfl ?_
  refine ccst 2 (0) ⟨u349J, _, rfl⟩ rfl (by decide) (fun z1 h1 => ?_)
  refine cald 3 ⟨u349J, _, rfl⟩ rfl rfl ?_
  refine cild 4 ⟨u349J, _, rfl⟩ rfl rfl ?_
  refine cild 5 ⟨u349J, _, rfl⟩ rfl rfl ?_
  refine ccall (kd := 0) (t := 2) [.ref 0, .int _, .int _] [.int _, .ref 83] hI.1 ⟨u349J, _, rfl⟩ (Or.inl ⟨_, rfl, rfl, by decide, by decide⟩) rfl rfl rfl ⟨rfl, rfl, rfl⟩ rfl (recv0 hI.1 _) rfl (qKE (Φ := fun z hp1 => bHk 84 bTT hp1 ∧ cF hp hp1 ∧ gTr T x1.toInt x2.toInt = 0 ∧ clS hp1 (V, T, ty) n h sv ∧ z.toInt = memN (mN T x1.toInt.toNat) x2.toInt.toNat) (Ψ := fun E hp1 => lawI hp1 ∧ rfS hp1 (V, T, ty) n h sv ∧ clS hp1 (V, T, ty) n h sv ∧ ¬ gTr T x1.toInt x2.toInt = 0 ∧ ((gTr T x1.toInt x2.toInt = 1 ∧ E = 1) ∨ (gTr T x1.toInt x2.toInt = 2 ∧ E = 0))) (fun R g1 g2 => k_120E (d := d + 15) hI.1 c (fun E hp1 b1 b2 b3 e1 e2 => g2 E hp1 ⟨law_cl hI b1 b2, cF_rf b2 r, b3, e1, e2⟩) (fun z hp1 a1 a2 a3 a4 a5 => g1 z hp1 ⟨a1, a2, a3, a4, a5⟩)) (fun z hp1 φ => Or.inl ⟨_, rfl, ?_⟩) (fun E hp1 ψ => Or.inr ?_))
  · refine ci2lE 9 ⟨u349J, _, rfl⟩ rfl (fun w hw => ?_)
    refine clastE 10 φ.1 ⟨u349J, _, rfl⟩ rfl h1 (fun hp2 hH2 F2 J2 => ?_)
    refine cgoto ⟨u349J, _, rfl⟩ ?_
    refine ccst 22 (0) ⟨u349J, _, rfl⟩ rfl (by decide) (fun z9 h9 => ?_)
    exact cret ⟨u349J, _, rfl⟩ (Or.inl rfl) (hR _ _ _ _ (lawI_83 (law_cl hI φ.1 φ.2.1) hH2 F2) (rf_83 F2 (cF_rf φ.2.1 r)) (by rw [φ.2.2.1]; exact h9) (Or.inr ⟨φ.2.2.1, cl_83 F2 φ.2.2.2.1, by rw [J2, hw]; exact φ.2.2.2.2⟩) (by decide) (by decide))
  · obtain ⟨ψ0, ψr, ψc, ψ1, ψ2⟩ := ψ
    rcases ψ2 with ⟨ce, rfl⟩ | ⟨ce, rfl⟩
    · refine ⟨1, 13, 4, 15, rfl, rfl, rfl, rfl, ?_⟩
      refine ccst 16 (1) ⟨u349J, _, rfl⟩ rfl (by decide) (fun z9 h9 => ?_)
      exact cret ⟨u349J, _, rfl⟩ (Or.inl rfl) (hR _ _ _ _ ψ0 ψr (by rw [ce]; exact h9) (Or.inl ⟨ψ1, ψc⟩) (by decide) (by decide))
    · refine ⟨0, 17, 4, 19, rfl, rfl, rfl, rfl, ?_⟩
      refine ccst 20 (2) ⟨u349J, _, rfl⟩ rfl (by decide) (fun z9 h9 => ?_)
      exact cret ⟨u349J, _, rfl⟩ (Or.inl rfl) (hR _ _ _ _ ψ0 ψr (by rw [ce]; exact h9) (Or.inl ⟨ψ1, ψc⟩) (by decide) (by decide))
end
/-! ##### q10 ##### -/
section
/-! ===== find on both sides ===== -/
theorem u121 : bUp 0 am_m121.1 = true := by decide +kernel
theorem k_121E {d V n : Nat} {h : Nat → sR} {sv : Option sR} {T : sT} {ty : Nat → Int} {hp : amH} {R : xQ} {a b c : Int32} (hH : bHk 84 bTT hp) (hS : clS hp (V, T, ty) n h sv)
    (hT : ∀ E hp1, bHk 84 bTT hp1 → cF hp hp1 → clS hp1 (V, T, ty) n h sv → ¬ gSet V a.toInt b.toInt c.toInt = 0 → ((gSet V a.toInt b.toInt c.toInt = 1 ∧ E = 1) ∨ (gSet V a.toInt b.toInt c.toInt = 2 ∧ E = 0)) → R (.inr E) hp1)
    (hR : ∀ (z : Int32) hp1, bHk 84 bTT hp1 → cF hp hp1 → gSet V a.toInt b.toInt c.toInt = 0 → clS hp1 (V, T, ty) n h sv → z.toInt = nmT T (m3 a.toInt.toNat b.toInt.toNat c.toInt.toNat) → R (.inl (some (.int z))) hp1) : xK (d + 5) 121 [.ref 0, .int a, .int b, .int c] hp R := by
  have hB : bdOk hp 3 V T := hS.1
  have b0 : rN hp 3 0 = (V : Int) := hB.1
  have hL : lsN hp 3 T 225 := hS.2.1
  have b1 : rN hp 3 1 = (((trL T 225).length : Nat) : Int) := hL.1
  have hT0 : sOk V T := hB.2.1
  have h15 : V ≤ 15 := hT0.2.1
  have l35 : (trL T 225).length ≤ 35 := trL_35 hT0 225
  have nq0 : rN hp 49 0 = ((nQ T : Nat) : Int) := hS.2.2.1.1
  refine xin (M := am_m121) rfl rfl rfl ?_
  refine xald 1 ⟨u121, _, rfl⟩ rfl rfl ?_
  refine xild 2 ⟨u121, _, rfl⟩ rfl rfl ?_
  refine xild 3 ⟨u121, _, rfl⟩ rfl rfl ?_
  refine xild 4 ⟨u121, _, rfl⟩ rfl rfl ?_
  refine xcallT 7 (o := 0) [.int _, .int _, .int _] [] hH ⟨u121, _, rfl⟩ rfl rfl (by decide) rfl (by decide) rfl ⟨rfl, rfl, rfl, rfl⟩ rfl (k_rq3 hH b0 (fun g4 => Or.inl ⟨_, rfl, ?_⟩) (fun g4 => Or.inr ⟨_, rfl, rfl, hT _ hp hH cF.refl hS (by omega) (Or.inl ⟨g4, rfl⟩)⟩) (fun g4 => Or.inr ⟨_, rfl, rfl, hT _ hp hH cF.refl hS (by omega) (Or.inr ⟨g4, rfl⟩)⟩))
  have k4 := gSet_0.mp g4
  refine xald 8 ⟨u121, _, rfl⟩ rfl rfl ?_
  refine xgetD 11 (3) hH ⟨u121, _, rfl⟩ rfl (by decide) (by decide) rfl rfl (by decide) ?_
  refine xild 12 ⟨u121, _, rfl⟩ rfl rfl ?_
  refine xild 13 ⟨u121, _, rfl⟩ rfl rfl ?_
  refine xild 14 ⟨u121, _, rfl⟩ rfl rfl ?_
  refine xcallS 17 [.int _, .int _, .int _] [.ref 3] hH ⟨u121, _, rfl⟩ rfl rfl rfl rfl rfl (k_three (x := a.toInt.toNat) (y := b.toInt.toNat) (z := c.toInt.toNat) (by omega) (by omega) (by omega) (by omega) (by omega) (by omega) (fun z14 h14 => ⟨_, rfl, ?_⟩))
  refine xcallC 20 (o := 3) [.int _] [] hH ⟨u121, _, rfl⟩ rfl rfl (by decide) rfl (by decide) rfl ⟨rfl, rfl, rfl, rfl⟩ rfl (k_nof (o := 3) (a := a.toInt.toNat) (b := b.toInt.toNat) (c := c.toInt.toNat) (Or.inl rfl) hH hB hL h14 (by omega) (by omega) (by omega) (by omega) (by omega) (by omega) (fun z17 h17 => ⟨_, rfl, ?_⟩))
  exact xret ⟨u121, _, rfl⟩ rfl (hR _ _ hH cF.refl g4 hS h17)
theorem u265 : bUp 0 am_m265.1 = true := by decide +kernel
theorem k_265E {d V n : Nat} {h : Nat → sR} {sv : Option sR} {T : sT} {ty : Nat → Int} {hp : amH} {R : xQ} {a b c : Int32} (hH : bHk 84 bTT hp) (hP : P0 hp) (hS : rfS hp (V, T, ty) n h sv)
    (hR : ∀ (z : Int32) hp1, bHk 84 bTT hp1 → P0 hp1 → bFr wM hp hp1 → rN hp1 66 7 = gSet V a.toInt b.toInt c.toInt → ((¬ gSet V a.toInt b.toInt c.toInt = 0 ∧ rfS hp1 (V, T, ty) n h sv) ∨ (gSet V a.toInt b.toInt c.toInt = 0 ∧ rfS hp1 (V, T, ty) n h sv ∧ z.toInt = nmT T (m3 a.toInt.toNat b.toInt.toNat c.toInt.toNat))) → R (.inl (some (.int z))) hp1) : xK (d + 4) 265 [.ref 66, .int a, .int b, .int c] hp R := by
  have hB : rdOk hp V T := rowOk_rd hS.1
  have b0 : rN hp 67 0 = (V : Int) := hB.1
  have hT0 : sOk V T := hB.2.1
  have h15 : V ≤ 15 := hT0.2.1
  have l35 : (trL T 225).length ≤ 35 := trL_35 hT0 225
  refine xin (M := am_m265) rfl rfl rfl ?_
  refine xald 1 ⟨u265, _, rfl⟩ rfl rfl ?_
  refine xild 2 ⟨u265, _, rfl⟩ rfl rfl ?_
  refine xild 3 ⟨u265, _, rfl⟩ rfl rfl ?_
  refine xild 4 ⟨u265, _, rfl⟩ rfl rfl ?_
  refine xcall 7 [.ref 66, .int _, .int _, .int _] [] hH ⟨u265, _, rfl⟩ rfl rfl rfl rfl rfl (k_gp3 hH b0 h15 (fun z4 hp4 hH4 F4 t4 o4 => ⟨_, rfl, ?_⟩))
  have S4 := rfS_W hS F4 (fun _ => rfl) rfl rfl (fun _ => rfl) (fun _ => rfl)
  have P4 : P0 hp4 := P0_W (W := [(66, 7)]) (by decide) F4 hP
  refine xif_eq 10 ⟨u265, _, rfl⟩ rfl (fun c7 => ?_) (fun c7 => ?_)
  · have g4 : gSet V a.toInt b.toInt c.toInt = 0 := by omega
    have k4 := gSet_0.mp g4
    refine xald 13 ⟨u265, _, rfl⟩ rfl rfl ?_
    refine xcall 16 [.ref 66] [] hH4 ⟨u265, _, rfl⟩ rfl rfl rfl rfl rfl (k_rlst hH4 (V := V) (T := T) (show rdOk hp4 V T from rowOk_rd S4.1) (fun hp13 hH13 F13 B13 L13 => ⟨_, rfl, ?_⟩))
    have S13 := rfS_W S4 F13 (fun _ => rfl) rfl rfl (fun _ => rfl) (fun _ => rfl)
    have P13 : P0 hp13 := P0_W (W := bLT) (by decide) F13 P4
    refine xald 17 ⟨u265, _, rfl⟩ rfl rfl ?_
    refine xcst 18 (1) ⟨u265, _, rfl⟩ rfl (by decide) (fun z17 h17 => ?_)
    refine xild 19 ⟨u265, _, rfl⟩ rfl rfl ?_
    refine xshl 20 ⟨u265, _, rfl⟩ rfl ?_
    refine xcst 21 (1) ⟨u265, _, rfl⟩ rfl (by decide) (fun z20 h20 => ?_)
    refine xild 22 ⟨u265, _, rfl⟩ rfl rfl ?_
    refine xshl 23 ⟨u265, _, rfl⟩ rfl ?_
    refine xor_ 24 ⟨u265, _, rfl⟩ rfl ?_
    refine xcst 25 (1) ⟨u265, _, rfl⟩ rfl (by decide) (fun z24 h24 => ?_)
    refine xild 26 ⟨u265, _, rfl⟩ rfl rfl ?_
    refine xshl 27 ⟨u265, _, rfl⟩ rfl ?_
    refine xor_ 28 ⟨u265, _, rfl⟩ rfl ?_
    have e1 := i_shl h17 (n := a.toInt.toNat) (c := a) (by omega) (by omega)
    have e2 := i_shl h20 (n := b.toInt.toNat) (c := b) (by omega) (by omega)
    have e3 := i_or e1.1 e2.1 e1.2 e2.2
    have e4 := i_shl h24 (n := c.toInt.toNat) (c := c) (by omega) (by omega)
    have e5 := i_or e3.1 e4.1 e3.2 e4.2
    refine xcall 31 [.ref 66, .int _] [] hH13 ⟨u265, _, rfl⟩ rfl rfl rfl rfl rfl (k_rnof hH13 B13 L13 (m := m3 a.toInt.toNat b.toInt.toNat c.toInt.toNat) e5.1 (fun z28 h28 => ⟨_, rfl, ?_⟩))
    exact xret ⟨u265, _, rfl⟩ rfl (hR _ hp13 hH13 P13 ((bFr_sub F4 (by decide)).trans (bFr_sub F13 (by decide))) (by rw [show rN hp13 66 7 = rN hp4 66 7 from r_fr F13 rfl]; exact t4) (Or.inr ⟨g4, S13, h28⟩))
  · refine xcst 11 (0) ⟨u265, _, rfl⟩ rfl (by decide) (fun z10 h10 => ?_)
    exact xret ⟨u265, _, rfl⟩ rfl (hR _ hp4 hH4 P4 (bFr_sub F4 (by decide)) t4 (Or.inl ⟨by omega, S4⟩))
theorem h350E {d : Nat} {hp : amH} {R : cQ} {x1 x2 x3 : Int32} {V n : Nat} {h : Nat → sR} {sv : Option sR} {T : sT} {ty : Nat → Int} (hI : lawI hp) (c : clS hp (V, T, ty) n h sv) (r : rfS hp (V, T, ty) n h sv)
    (hR : ∀ (z : Int32) hp1 mc ms, lawI hp1 → rfS hp1 (V, T, ty) n h sv → z.toInt = gSet V x1.toInt x2.toInt x3.toInt → ((¬ gSet V x1.toInt x2.toInt x3.toInt = 0 ∧ clS hp1 (V, T, ty) n h sv) ∨ (gSet V x1.toInt x2.toInt x3.toInt = 0 ∧ clS hp1 (V, T, ty) n h sv ∧ rJ hp1 83 0 = nmT T (m3 x1.toInt.toNat x2.toInt.toNat x3.toInt.toNat))) → mc ≤ 1 → ms ≤ 6 → R (.inl (some (.int z))) hp1 mc ms) : cK (d + 20) 350 [.ref 0, .int x1, .int x2, .int x3, .ref 83] hp R := by
  refine cin (M := am_m350) rfl rfl rfl ?_
  refine cald2 2 ⟨u350J, _, rfl⟩ rfl rfl ?_
  refine ccst 3 (0) ⟨u350J, _, rfl⟩ rfl (by decide) (fun z2 h2 => ?_)
  refine cald 4 ⟨u350J, _, rfl⟩ rfl rfl ?_
  refine cild 5 ⟨u350J, _, rfl⟩ rfl rfl ?_
  refine cild 6 ⟨u350J, _, rfl⟩ rfl rfl ?_
  refine cild 7 ⟨u350J, _, rfl⟩ rfl rfl ?_
  refine ccall (kd := 0) (t := 2) [.ref 0, .int _, .int _, .int _] [.int _, .ref 83] hI.1 ⟨u350J, _, rfl⟩ (Or.inl ⟨_, rfl, rfl, by decide, by decide⟩) rfl rfl rfl ⟨rfl, rfl, rfl⟩ rfl (recv0 hI.1 _) rfl (qKE (Φ := fun z hp1 => bHk 84 bTT hp1 ∧ cF hp hp1 ∧ gSet V x1.toInt x2.toInt x3.toInt = 0 ∧ clS hp1 (V, T, ty) n h sv ∧ z.toInt = nmT T (m3 x1.toInt.toNat x2.toInt.toNat x3.toInt.toNat)) (Ψ := fun E hp1 => lawI hp1 ∧ rfS hp1 (V, T, ty) n h sv ∧ clS hp1 (V, T, ty) n h sv ∧ ¬ gSet V x1.toInt x2.toInt x3.toInt = 0 ∧ ((gSet V x1.toInt x2.toInt x3.toInt = 1 ∧ E = 1) ∨ (gSet V x1.toInt x2.toInt x3.toInt = 2 ∧ E = 0))) (fun R g1 g2 => k_121E (d := d + 14) hI.1 c (fun E hp1 b1 b2 b3 e1 e2 => g2 E hp1 ⟨law_cl hI b1 b2, cF_rf b2 r, b3, e1, e2⟩) (fun z hp1 a1 a2 a3 a4 a5 => g1 z hp1 ⟨a1, a2, a3, a4, a5⟩)) (fun z hp1 φ => Or.inl ⟨_, rfl, ?_⟩) (fun E hp1 ψ => Or.inr ?_))
  · refine ci2lE 11 ⟨u350J, _, rfl⟩ rfl (fun w hw => ?_)
    refine clastE 12 φ.1 ⟨u350J, _, rfl⟩ rfl h2 (fun hp2 hH2 F2 J2 => ?_)
    refine cgoto ⟨u350J, _, rfl⟩ ?_
    refine ccst 24 (0) ⟨u350J, _, rfl⟩ rfl (by decide) (fun z9 h9 => ?_)
    exact cret ⟨u350J, _, rfl⟩ (Or.inl rfl) (hR _ _ _ _ (lawI_83 (law_cl hI φ.1 φ.2.1) hH2 F2) (rf_83 F2 (cF_rf φ.2.1 r)) (by rw [φ.2.2.1]; exact h9) (Or.inr ⟨φ.2.2.1, cl_83 F2 φ.2.2.2.1, by rw [J2, hw]; exact φ.2.2.2.2⟩) (by decide) (by decide))
  · obtain ⟨ψ0, ψr, ψc, ψ1, ψ2⟩ := ψ
    rcases ψ2 with ⟨ce, rfl⟩ | ⟨ce, rfl⟩
    · refine ⟨1, 15, 5, 17, rfl, rfl, rfl, rfl, ?_⟩
      refine ccst 18 (1) ⟨u350J, _, rfl⟩ rfl (by decide) (fun z9 h9 => ?_)
      exact cret ⟨u350J, _, rfl⟩ (Or.inl rfl) (hR _ _ _ _ ψ0 ψr (by rw [ce]; exact h9) (Or.inl ⟨ψ1, ψc⟩) (by decide) (by decide))
    · refine ⟨0, 19, 5, 21, rfl, rfl, rfl, rfl, ?_⟩
      refine ccst 22 (2) ⟨u350J, _, rfl⟩ rfl (by decide) (fun z9 h9 => ?_)
      exact cret ⟨u350J, _, rfl⟩ (Or.inl rfl) (hR _ _ _ _ ψ0 ψr (by rw [ce]; exact h9) (Or.inl ⟨ψ1, ψc⟩) (by decide) (by decide))
end
/-! ##### q11 ##### -/
section
/-! ===== third on both sides ===== -/
theorem u122 : bUp 0 am_m122.1 = true := by decide +kernel
theorem k_122E {d V n : Nat} {h : Nat → sR} {sv : Option sR} {T : sT} {ty : Nat → Int} {hp : amH} {R : xQ} {a b : Int32} (hH : bHk 84 bTT hp) (hS : clS hp (V, T, ty) n h sv)
    (hT : ∀ E hp1, bHk 84 bTT hp1 → cF hp hp1 → clS hp1 (V, T, ty) n h sv → ¬ gTwo V a.toInt b.toInt = 0 → ((gTwo V a.toInt b.toInt = 1 ∧ E = 1) ∨ (gTwo V a.toInt b.toInt = 2 ∧ E = 0)) → R (.inr E) hp1)
    (hR : ∀ (z : Int32) hp1, bHk 84 bTT hp1 → cF hp hp1 → gTwo V a.toInt b.toInt = 0 → clS hp1 (V, T, ty) n h sv → z.toInt = T a.toInt.toNat b.toInt.toNat → R (.inl (some (.int z))) hp1) : xK (d + 3) 122 [.ref 0, .int a, .int b] hp R := by
  have hB : bdOk hp 3 V T := hS.1
  have b0 : rN hp 3 0 = (V : Int) := hB.1
  have hL : lsN hp 3 T 225 := hS.2.1
  have b1 : rN hp 3 1 = (((trL T 225).length : Nat) : Int) := hL.1
  have hT0 : sOk V T := hB.2.1
  have h15 : V ≤ 15 := hT0.2.1
  have l35 : (trL T 225).length ≤ 35 := trL_35 hT0 225
  have nq0 : rN hp 49 0 = ((nQ T : Nat) : Int) := hS.2.2.1.1
  refine xin (M := am_m122) rfl rfl rfl ?_
  refine xald 1 ⟨u122, _, rfl⟩ rfl rfl ?_
  refine xild 2 ⟨u122, _, rfl⟩ rfl rfl ?_
  refine xild 3 ⟨u122, _, rfl⟩ rfl rfl ?_
  refine xcallT 6 (o := 0) [.int _, .int _] [] hH ⟨u122, _, rfl⟩ rfl rfl (by decide) rfl (by decide) rfl ⟨rfl, rfl, rfl, rfl⟩ rfl (k_rq2 hH b0 (fun g3 => Or.inl ⟨_, rfl, ?_⟩) (fun g3 => Or.inr ⟨_, rfl, rfl, hT _ hp hH cF.refl hS (by omega) (Or.inl ⟨g3, rfl⟩)⟩) (fun g3 => Or.inr ⟨_, rfl, rfl, hT _ hp hH cF.refl hS (by omega) (Or.inr ⟨g3, rfl⟩)⟩))
  have k3 := gTwo_0.mp g3
  refine xald 7 ⟨u122, _, rfl⟩ rfl rfl ?_
  refine xgetD 10 (3) hH ⟨u122, _, rfl⟩ rfl (by decide) (by decide) rfl rfl (by decide) ?_
  refine xild 11 ⟨u122, _, rfl⟩ rfl rfl ?_
  refine xild 12 ⟨u122, _, rfl⟩ rfl rfl ?_
  refine xcallC 15 (o := 3) [.int _, .int _] [] hH ⟨u122, _, rfl⟩ rfl rfl (by decide) rfl (by decide) rfl ⟨rfl, rfl, rfl, rfl⟩ rfl (k_thd (o := 3) (Or.inl rfl) hH hB (fun z12 h12 => ⟨_, rfl, ?_⟩))
  rw [if_pos (by omega)] at h12
  exact xret ⟨u122, _, rfl⟩ rfl (hR _ _ hH cF.refl g3 hS h12)
theorem u266 : bUp 0 am_m266.1 = true := by decide +kernel
theorem k_266E {d V n : Nat} {h : Nat → sR} {sv : Option sR} {T : sT} {ty : Nat → Int} {hp : amH} {R : xQ} {a b : Int32} (hH : bHk 84 bTT hp) (hP : P0 hp) (hS : rfS hp (V, T, ty) n h sv)
    (hR : ∀ (z : Int32) hp1, bHk 84 bTT hp1 → P0 hp1 → bFr wM hp hp1 → rN hp1 66 7 = gTwo V a.toInt b.toInt → ((¬ gTwo V a.toInt b.toInt = 0 ∧ rfS hp1 (V, T, ty) n h sv) ∨ (gTwo V a.toInt b.toInt = 0 ∧ rfS hp1 (V, T, ty) n h sv ∧ z.toInt = T a.toInt.toNat b.toInt.toNat)) → R (.inl (some (.int z))) hp1) : xK (d + 3) 266 [.ref 66, .int a, .int b] hp R := by
  have hB : rdOk hp V T := rowOk_rd hS.1
  have b0 : rN hp 67 0 = (V : Int) := hB.1
  have hT0 : sOk V T := hB.2.1
  have h15 : V ≤ 15 := hT0.2.1
  have l35 : (trL T 225).length ≤ 35 := trL_35 hT0 225
  refine xin (M := am_m266) rfl rfl rfl ?_
  refine xald 1 ⟨u266, _, rfl⟩ rfl rfl ?_
  refine xild 2 ⟨u266, _, rfl⟩ rfl rfl ?_
  refine xild 3 ⟨u266, _, rfl⟩ rfl rfl ?_
  refine xcall 6 [.ref 66, .int _, .int _] [] hH ⟨u266, _, rfl⟩ rfl rfl rfl rfl rfl (k_gp2 hH b0 h15 (fun z3 hp3 hH3 F3 t3 o3 => ⟨_, rfl, ?_⟩))
  have S3 := rfS_W hS F3 (fun _ => rfl) rfl rfl (fun _ => rfl) (fun _ => rfl)
  have P3 : P0 hp3 := P0_W (W := [(66, 7)]) (by decide) F3 hP
  refine xif_eq 9 ⟨u266, _, rfl⟩ rfl (fun c6 => ?_) (fun c6 => ?_)
  · have g3 : gTwo V a.toInt b.toInt = 0 := by omega
    have k3 := gTwo_0.mp g3
    refine xald 14 ⟨u266, _, rfl⟩ rfl rfl ?_
    refine xild 15 ⟨u266, _, rfl⟩ rfl rfl ?_
    refine xild 16 ⟨u266, _, rfl⟩ rfl rfl ?_
    refine xcall 19 [.ref 66, .int _, .int _] [] hH3 ⟨u266, _, rfl⟩ rfl rfl rfl rfl rfl (k_third hH3 (by omega) (by omega) (by omega) (by omega) (fun z16 h16 => ⟨_, rfl, ?_⟩))
    have h16 := h16.trans ((show rdOk hp3 V T from rowOk_rd S3.1).2.2.1 a.toInt.toNat b.toInt.toNat (by omega) (by omega))
    exact xret ⟨u266, _, rfl⟩ rfl (hR _ hp3 hH3 P3 (bFr_sub F3 (by decide)) t3 (Or.inr ⟨g3, S3, h16⟩))
  · refine xcst 10 (0) ⟨u266, _, rfl⟩ rfl (by decide) (fun z9 h9 => ?_)
    refine xgoto ⟨u266, _, rfl⟩ ?_
    exact xret ⟨u266, _, rfl⟩ rfl (hR _ hp3 hH3 P3 (bFr_sub F3 (by decide)) t3 (Or.inl ⟨by omega, S3⟩))
theorem h351E {d : Nat} {hp : amH} {R : cQ} {x1 x2 : Int32} {V n : Nat} {h : Nat → sR} {sv : Option sR} {T : sT} {ty : Nat → Int} (hI : lawI hp) (c : clS hp (V, T, ty) n h sv) (r : rfS hp (V, T, ty) n h sv)
    (hR : ∀ (z : Int32) hp1 mc ms, lawI hp1 → rfS hp1 (V, T, ty) n h sv → z.toInt = gTwo V x1.toInt x2.toInt → ((¬ gTwo V x1.toInt x2.toInt = 0 ∧ clS hp1 (V, T, ty) n h sv) ∨ (gTwo V x1.toInt x2.toInt = 0 ∧ clS hp1 (V, T, ty) n h sv ∧ rJ hp1 83 0 = T x1.toInt.toNat x2.toInt.toNat)) → mc ≤ 1 → ms ≤ 6 → R (.inl (some (.int z))) hp1 mc ms) : cK (d + 20) 351 [.ref 0, .int x1, .int x2, .ref 83] hp R := by
  refine cin (M := am_m351) rfl rfl rfl ?_
  refine cald 1 ⟨u351J, _, rfl⟩ rfl rfl ?_
  refine ccst 2 (0) ⟨u351J, _, rfl⟩ rfl (by decide) (fun z1 h1 => ?_)
  refine cald 3 ⟨u351J, _, rfl⟩ rfl rfl ?_
  refine cild 4 ⟨u351J, _, rfl⟩ rfl rfl ?_
  refine cild 5 ⟨u351J, _, rfl⟩ rfl rfl ?_
  refine ccall (kd := 0) (t := 2) [.ref 0, .int _, .int _] [.int _, .ref 83] hI.1 ⟨u351J, _, rfl⟩ (Or.inl ⟨_, rfl, rfl, by decide, by decide⟩) rfl rfl rfl ⟨rfl, rfl, rfl⟩ rfl (recv0 hI.1 _) rfl (qKE (Φ := fun z hp1 => bHk 84 bTT hp1 ∧ cF hp hp1 ∧ gTwo V x1.toInt x2.toInt = 0 ∧ clS hp1 (V, T, ty) n h sv ∧ z.toInt = T x1.toInt.toNat x2.toInt.toNat) (Ψ := fun E hp1 => lawI hp1 ∧ rfS hp1 (V, T, ty) n h sv ∧ clS hp1 (V, T, ty) n h sv ∧ ¬ gTwo V x1.toInt x2.toInt = 0 ∧ ((gTwo V x1.toInt x2.toInt = 1 ∧ E = 1) ∨ (gTwo V x1.toInt x2.toInt = 2 ∧ E = 0))) (fun R g1 g2 => k_122E (d := d + 16) hI.1 c (fun E hp1 b1 b2 b3 e1 e2 => g2 E hp1 ⟨law_cl hI b1 b2, cF_rf b2 r, b3, e1, e2⟩) (fun z hp1 a1 a2 a3 a4 a5 => g1 z hp1 ⟨a1, a2, a3, a4, a5⟩)) (fun z hp1 φ => Or.inl ⟨_, rfl, ?_⟩) (fun E hp1 ψ => Or.inr ?_))
  · refine ci2lE 9 ⟨u351J, _, rfl⟩ rfl (fun w hw => ?_)
    refine clastE 10 φ.1 ⟨u351J, _, rfl⟩ rfl h1 (fun hp2 hH2 F2 J2 => ?_)
    refine cgoto ⟨u351J, _, rfl⟩ ?_
    refine ccst 22 (0) ⟨u351J, _, rfl⟩ rfl (by decide) (fun z9 h9 => ?_)
    exact cret ⟨u351J, _, rfl⟩ (Or.inl rfl) (hR _ _ _ _ (lawI_83 (law_cl hI φ.1 φ.2.1) hH2 F2) (rf_83 F2 (cF_rf φ.2.1 r)) (by rw [φ.2.2.1]; exact h9) (Or.inr ⟨φ.2.2.1, cl_83 F2 φ.2.2.2.1, by rw [J2, hw]; exact φ.2.2.2.2⟩) (by decide) (by decide))
  · obtain ⟨ψ0, ψr, ψc, ψ1, ψ2⟩ := ψ
    rcases ψ2 with ⟨ce, rfl⟩ | ⟨ce, rfl⟩
    · refine ⟨1, 13, 4, 15, rfl, rfl, rfl, rfl, ?_⟩
      refine ccst 16 (1) ⟨u351J, _, rfl⟩ rfl (by decide) (fun z9 h9 => ?_)
      exact cret ⟨u351J, _, rfl⟩ (Or.inl rfl) (hR _ _ _ _ ψ0 ψr (by rw [ce]; exact h9) (Or.inl ⟨ψ1, ψc⟩) (by decide) (by decide))
    · refine ⟨0, 17, 4, 19, rfl, rfl, rfl, rfl, ?_⟩
      refine ccst 20 (2) ⟨u351J, _, rfl⟩ rfl (by decide) (fun z9 h9 => ?_)
      exact cret ⟨u351J, _, rfl⟩ (Or.inl rfl) (hR _ _ _ _ ψ0 ψr (by rw [ce]; exact h9) (Or.inl ⟨ψ1, ψc⟩) (by decide) (by decide))
end
/-! ##### q12 ##### -/
section
/-! ===== degree on both sides ===== -/
theorem bc_one : ∀ x y z p : Fin 15, x.1 < y.1 → y.1 < z.1 → (1 ≤ bcN (m3 x.1 y.1 z.1 &&& 2 ^ p.1) ↔ (p.1 = x.1 ∨ p.1 = y.1 ∨ p.1 = z.1)) := by decide +kernel
theorem pts2 : ∀ x y z p : Fin 15, x.1 < y.1 → y.1 < z.1 → sm (fun v => iv ((p.1 = x.1 ∨ p.1 = y.1 ∨ p.1 = z.1) ∧ (v = x.1 ∨ v = y.1 ∨ v = z.1) ∧ ¬ p.1 = v)) 15 = 2 * iv (p.1 = x.1 ∨ p.1 = y.1 ∨ p.1 = z.1) := by decide +kernel
theorem one_t {V : Nat} {T : sT} (hT : sOk V T) {t p : Nat} (ht : t < (trL T 225).length) (hp : p < 15) : sm (fun v => iv (onL T t p ∧ onL T t v ∧ ¬ p = v)) 15 = 2 * iv (1 ≤ bcN (mN T t &&& 2 ^ p)) := by
  obtain ⟨x, y, z, h1, h2, h3, h4, -, h6⟩ := on_pts hT ht
  have h15 := hT.2.1
  have k := bc_one ⟨x, by omega⟩ ⟨y, by omega⟩ ⟨z, by omega⟩ ⟨p, hp⟩ h1 h2
  have k2 : 1 ≤ bcN (mN T t &&& 2 ^ p) ↔ (p = x ∨ p = y ∨ p = z) := by rw [h4]; exact k
  rw [iv_eq k2]
  refine Eq.trans ?_ (pts2 ⟨x, by omega⟩ ⟨y, by omega⟩ ⟨z, by omega⟩ ⟨p, hp⟩ h1 h2)
  refine sm_ext _ (fun v _ => iv_eq ?_)
  rw [h6, h6]
/-- each triple at a point covers two of its pairs -/
theorem deg_2 {V : Nat} {T : sT} (hT : sOk V T) {p : Nat} (hp : p < 15) : sm (fun v => iv (¬ T p v = -1)) 15 = 2 * mtC T (2 ^ p) 1 (trL T 225).length := by
  have e : sm (fun v => iv (¬ T p v = -1)) 15 = sm (fun v => sm (fun t => iv (onL T t p ∧ onL T t v ∧ ¬ p = v)) (trL T 225).length) 15 := by
    refine sm_ext _ (fun v _ => ?_)
    by_cases g : T p v = -1
    · rw [iv_f (p := ¬ T p v = -1) (fun z => z g)]
      exact Eq.symm (sm_none (fun t ht => iv_f (fun z => (on_T hT ht z.1 z.2.1 z.2.2).1 g)))
    · obtain ⟨w, -, -, -, -, -, huv, -, -, k1, -, k2, k3, -⟩ := li_s hT g
      rw [iv_t (p := ¬ T p v = -1) g]
      exact Eq.symm (sm_one k1 (iv_t ⟨k2, k3, huv⟩) (fun t ht hne => iv_f (fun z => hne (on_1 hT ht k1 huv z.1 z.2.1 k2 k3))))
  rw [e, sm_swap]
  unfold mtC
  rw [← sm_mul]
  exact sm_ext _ (fun t ht => one_t hT ht hp)
theorem u123 : bUp 0 am_m123.1 = true := by decide +kernel
theorem k_123E {d V n : Nat} {h : Nat → sR} {sv : Option sR} {T : sT} {ty : Nat → Int} {hp : amH} {R : xQ} {a : Int32} (hH : bHk 84 bTT hp) (hS : clS hp (V, T, ty) n h sv)
    (hT : ∀ E hp1, bHk 84 bTT hp1 → cF hp hp1 → clS hp1 (V, T, ty) n h sv → ¬ gPt V a.toInt = 0 → ((gPt V a.toInt = 1 ∧ E = 1)) → R (.inr E) hp1)
    (hR : ∀ (z : Int32) hp1, bHk 84 bTT hp1 → cF hp hp1 → gPt V a.toInt = 0 → clS hp1 (V, T, ty) n h sv → z.toInt = ((mtC T (2 ^ a.toInt.toNat) 1 (trL T 225).length : Nat) : Int) → R (.inl (some (.int z))) hp1) : xK (d + 3) 123 [.ref 0, .int a] hp R := by
  have hB : bdOk hp 3 V T := hS.1
  have b0 : rN hp 3 0 = (V : Int) := hB.1
  have hL : lsN hp 3 T 225 := hS.2.1
  have b1 : rN hp 3 1 = (((trL T 225).length : Nat) : Int) := hL.1
  have hT0 : sOk V T := hB.2.1
  have h15 : V ≤ 15 := hT0.2.1
  have l35 : (trL T 225).length ≤ 35 := trL_35 hT0 225
  have nq0 : rN hp 49 0 = ((nQ T : Nat) : Int) := hS.2.2.1.1
  refine xin (M := am_m123) rfl rfl rfl ?_
  refine xald 1 ⟨u123, _, rfl⟩ rfl rfl ?_
  refine xild 2 ⟨u123, _, rfl⟩ rfl rfl ?_
  refine xcallT 5 (o := 0) [.int _] [] hH ⟨u123, _, rfl⟩ rfl rfl (by decide) rfl (by decide) rfl ⟨rfl, rfl, rfl, rfl⟩ rfl (k_rq1 hH b0 (fun g2 => Or.inl ⟨_, rfl, ?_⟩) (fun g2 => Or.inr ⟨_, rfl, rfl, hT _ hp hH cF.refl hS (by omega) ⟨g2, rfl⟩⟩))
  have k2 := gPt_0.mp g2
  refine xald 6 ⟨u123, _, rfl⟩ rfl rfl ?_
  refine xgetD 9 (3) hH ⟨u123, _, rfl⟩ rfl (by decide) (by decide) rfl rfl (by decide) ?_
  refine xcst 10 (1) ⟨u123, _, rfl⟩ rfl (by decide) (fun z9 h9 => ?_)
  refine xild 11 ⟨u123, _, rfl⟩ rfl rfl ?_
  refine xshl 12 ⟨u123, _, rfl⟩ rfl ?_
  have e1 := i_shl h9 (n := a.toInt.toNat) (c := a) (by omega) (by omega)
  refine xcst 13 (1) ⟨u123, _, rfl⟩ rfl (by decide) (fun z12 h12 => ?_)
  refine xcallC 16 (o := 3) [.int _, .int _] [] hH ⟨u123, _, rfl⟩ rfl rfl (by decide) rfl (by decide) rfl ⟨rfl, rfl, rfl, rfl⟩ rfl (k_26E (m := 2 ^ a.toInt.toNat) hT0 hH hL e1.1 (Nat.lt_of_lt_of_le (Nat.pow_lt_pow_right (by decide) (show a.toInt.toNat < 15 by omega)) (by decide)) (fun z13 h13 => ⟨_, rfl, ?_⟩))
  exact xret ⟨u123, _, rfl⟩ rfl (hR _ _ hH cF.refl g2 hS (by rw [h13, h12]))
theorem u267 : bUp 0 am_m267.1 = true := by decide +kernel
theorem dg_le {f : Nat → Nat} (h : ∀ i, f i ≤ 1) : ∀ n, sm f n ≤ n
  | 0 => Nat.le_refl _
  | n + 1 => by
    have h1 := dg_le h n
    have h2 := h n
    show sm f n + f n ≤ n + 1
    omega
theorem l267E {d V p : Nat} {T : sT} {hp : amH} {R : xQ} {a : Int32} (hH : bHk 84 bTT hp) (hB : rdOk hp V T) (ha : a.toInt = (p : Int)) (hpV : p < V)
    (hR : ∀ z : Int32, z.toInt = ((mtC T (2 ^ p) 1 (trL T 225).length : Nat) : Int) → R (.inl (some (.int z))) hp) :
    ∀ (jj t : Nat) (w wt : Int32), wt.toInt = (t : Int) → t + jj = V → w.toInt = ((sm (fun v => iv (¬ T p v = -1)) t : Nat) : Int) → xV (d + 1) am_m267 14 [some (.ref 66), some (.int a), some (.int w), some (.int wt)] [] hp R := by
  have hT := hB.2.1
  have h15 := hT.2.1
  have b0 : rN hp 67 0 = (V : Int) := hB.1
  intro jj
  induction jj with
  | zero =>
    intro t w wt hwt hj hw
    have et : t = V := by omega
    have k := deg_2 hT (show p < 15 by omega)
    have k2 : sm (fun v => iv (¬ T p v = -1)) 15 = sm (fun v => iv (¬ T p v = -1)) V := sm_tail h15 (fun v h1 _ => iv_f (fun z => by
      obtain ⟨w, -, -, -, hv, -⟩ := li_s hT z
      omega))
    rw [et] at hw
    refine xild 15 ⟨u267, _, rfl⟩ rfl rfl ?_
    refine xald 16 ⟨u267, _, rfl⟩ rfl rfl ?_
    refine xcall 19 [.ref 66] [.int _] hH ⟨u267, _, rfl⟩ rfl rfl rfl rfl rfl (k_points hH (fun z16 h16 => ⟨_, rfl, ?_⟩))
    refine xcmp_ge 22 ⟨u267, _, rfl⟩ rfl (fun c19 => ?_) (fun c19 => ?_)
    · refine xild 52 ⟨u267, _, rfl⟩ rfl rfl ?_
      refine xcst 53 (2) ⟨u267, _, rfl⟩ rfl (by decide) (fun z52 h52 => ?_)
      refine xdiv 54 (Int32.toInt w / 2) ⟨u267, _, rfl⟩ rfl (by omega) (by omega) (by rw [h52]) (fun z53 h53 => ?_)
      exact xret ⟨u267, _, rfl⟩ rfl (hR _ (by omega))
    · omega
  | succ jj ih =>
    intro t w wt hwt hj hw
    have k2 := dg_le (f := fun v => iv (¬ T p v = -1)) (fun i => iv_le) t
    have hne : T p p = -1 := by
      rcases hT.2.2 p p with g | ⟨c, -, -, -, -, g, -⟩
      · exact g
      · exact absurd rfl g
    refine xild 15 ⟨u267, _, rfl⟩ rfl rfl ?_
    refine xald 16 ⟨u267, _, rfl⟩ rfl rfl ?_
    refine xcall 19 [.ref 66] [.int _] hH ⟨u267, _, rfl⟩ rfl rfl rfl rfl rfl (k_points hH (fun z16 h16 => ⟨_, rfl, ?_⟩))
    refine xcmp_ge 22 ⟨u267, _, rfl⟩ rfl (fun c19 => ?_) (fun c19 => ?_)
    · omega
    · refine xild 23 ⟨u267, _, rfl⟩ rfl rfl ?_
      refine xild 24 ⟨u267, _, rfl⟩ rfl rfl ?_
      refine xild 25 ⟨u267, _, rfl⟩ rfl rfl ?_
      refine xcmp_eq 28 ⟨u267, _, rfl⟩ rfl (fun c25 => ?_) (fun c25 => ?_)
      · refine xcst 43 (0) ⟨u267, _, rfl⟩ rfl (by decide) (fun z42 h42 => ?_)
        refine xadd 44 _ ⟨u267, _, rfl⟩ rfl rfl (by omega) (by omega) (fun z43 h43 => ?_)
        refine xist 45 ⟨u267, _, rfl⟩ rfl rfl ?_
        refine xinc 48 (1) ⟨u267, _, rfl⟩ rfl rfl rfl (by decide) (by omega) (by omega) (fun z45 h45 => ?_)
        refine xgoto ⟨u267, _, rfl⟩ ?_
        exact ih (t + 1) _ _ (by omega) (by omega) (by show _ = ((sm (fun v => iv (¬ T p v = -1)) t + iv (¬ T p t = -1) : Nat) : Int); rw [iv_f (p := ¬ T p t = -1) (fun z => z (by rw [show t = p by omega]; exact hne))]; omega)
      · refine xald 29 ⟨u267, _, rfl⟩ rfl rfl ?_
        refine xild 30 ⟨u267, _, rfl⟩ rfl rfl ?_
        refine xild 31 ⟨u267, _, rfl⟩ rfl rfl ?_
        refine xcall 34 [.ref 66, .int _, .int _] [.int _] hH ⟨u267, _, rfl⟩ rfl rfl rfl rfl rfl (k_third hH (by omega) (by omega) (by omega) (by omega) (fun z31 h31 => ⟨_, rfl, ?_⟩))
        have h31 : z31.toInt = T p t := by rw [h31, hB.2.2.1 _ _ (by omega) (by omega), show a.toInt.toNat = p by omega, show wt.toInt.toNat = t by omega]
        refine xcst 35 (-1) ⟨u267, _, rfl⟩ rfl (by decide) (fun z34 h34 => ?_)
        refine xcmp_eq 38 ⟨u267, _, rfl⟩ rfl (fun c35 => ?_) (fun c35 => ?_)
        · refine xcst 43 (0) ⟨u267, _, rfl⟩ rfl (by decide) (fun z42 h42 => ?_)
          refine xadd 44 _ ⟨u267, _, rfl⟩ rfl rfl (by omega) (by omega) (fun z43 h43 => ?_)
          refine xist 45 ⟨u267, _, rfl⟩ rfl rfl ?_
          refine xinc 48 (1) ⟨u267, _, rfl⟩ rfl rfl rfl (by decide) (by omega) (by omega) (fun z45 h45 => ?_)
          refine xgoto ⟨u267, _, rfl⟩ ?_
          exact ih (t + 1) _ _ (by omega) (by omega) (by show _ = ((sm (fun v => iv (¬ T p v = -1)) t + iv (¬ T p t = -1) : Nat) : Int); rw [iv_f (p := ¬ T p t = -1) (fun z => z (by omega))]; omega)
        · refine xcst 39 (1) ⟨u267, _, rfl⟩ rfl (by decide) (fun z38 h38 => ?_)
          refine xgoto ⟨u267, _, rfl⟩ ?_
          refine xadd 44 _ ⟨u267, _, rfl⟩ rfl rfl (by omega) (by omega) (fun z43 h43 => ?_)
          refine xist 45 ⟨u267, _, rfl⟩ rfl rfl ?_
          refine xinc 48 (1) ⟨u267, _, rfl⟩ rfl rfl rfl (by decide) (by omega) (by omega) (fun z45 h45 => ?_)
          refine xgoto ⟨u267, _, rfl⟩ ?_
          exact ih (t + 1) _ _ (by omega) (by omega) (by show _ = ((sm (fun v => iv (¬ T p v = -1)) t + iv (¬ T p t = -1) : Nat) : Int); rw [iv_t (p := ¬ T p t = -1) (by omega)]; omega)
theorem k_267E {d V n : Nat} {h : Nat → sR} {sv : Option sR} {T : sT} {ty : Nat → Int} {hp : amH} {R : xQ} {a : Int32} (hH : bHk 84 bTT hp) (hP : P0 hp) (hS : rfS hp (V, T, ty) n h sv)
    (hR : ∀ (z : Int32) hp1, bHk 84 bTT hp1 → P0 hp1 → bFr wM hp hp1 → rN hp1 66 7 = gPt V a.toInt → ((¬ gPt V a.toInt = 0 ∧ rfS hp1 (V, T, ty) n h sv) ∨ (gPt V a.toInt = 0 ∧ rfS hp1 (V, T, ty) n h sv ∧ z.toInt = ((mtC T (2 ^ a.toInt.toNat) 1 (trL T 225).length : Nat) : Int))) → R (.inl (some (.int z))) hp1) : xK (d + 3) 267 [.ref 66, .int a] hp R := by
  have hB : rdOk hp V T := rowOk_rd hS.1
  have b0 : rN hp 67 0 = (V : Int) := hB.1
  have hT0 : sOk V T := hB.2.1
  have h15 : V ≤ 15 := hT0.2.1
  have l35 : (trL T 225).length ≤ 35 := trL_35 hT0 225
  refine xin (M := am_m267) rfl rfl rfl ?_
  refine xald 1 ⟨u267, _, rfl⟩ rfl rfl ?_
  refine xild 2 ⟨u267, _, rfl⟩ rfl rfl ?_
  refine xcall 5 [.ref 66, .int _] [] hH ⟨u267, _, rfl⟩ rfl rfl rfl rfl rfl (k_gp1 hH b0 h15 (fun z2 hp2 hH2 F2 t2 o2 => ⟨_, rfl, ?_⟩))
  have S2 := rfS_W hS F2 (fun _ => rfl) rfl rfl (fun _ => rfl) (fun _ => rfl)
  have P2 : P0 hp2 := P0_W (W := [(66, 7)]) (by decide) F2 hP
  refine xif_eq 8 ⟨u267, _, rfl⟩ rfl (fun c5 => ?_) (fun c5 => ?_)
  · have g2 : gPt V a.toInt = 0 := by omega
    have k2 := gPt_0.mp g2
    refine xcst 11 (0) ⟨u267, _, rfl⟩ rfl (by decide) (fun z10 h10 => ?_)
    refine xist 12 ⟨u267, _, rfl⟩ rfl rfl ?_
    refine xcst 13 (0) ⟨u267, _, rfl⟩ rfl (by decide) (fun z12 h12 => ?_)
    refine xist 14 ⟨u267, _, rfl⟩ rfl rfl ?_
    exact l267E hH2 (show rdOk hp2 V T from rowOk_rd S2.1) (p := a.toInt.toNat) (by omega) (by omega) (fun z h => hR z hp2 hH2 P2 (bFr_sub F2 (by decide)) t2 (Or.inr ⟨g2, S2, h⟩)) V 0 _ _ h12 (by omega) h10
  · refine xcst 9 (0) ⟨u267, _, rfl⟩ rfl (by decide) (fun z8 h8 => ?_)
    exact xret ⟨u267, _, rfl⟩ rfl (hR _ hp2 hH2 P2 (bFr_sub F2 (by decide)) t2 (Or.inl ⟨by omega, S2⟩))
theorem h352E {d : Nat} {hp : amH} {R : cQ} {x1 : Int32} {V n : Nat} {h : Nat → sR} {sv : Option sR} {T : sT} {ty : Nat → Int} (hI : lawI hp) (c : clS hp (V, T, ty) n h sv) (r : rfS hp (V, T, ty) n h sv)
    (hR : ∀ (z : Int32) hp1 mc ms, lawI hp1 → rfS hp1 (V, T, ty) n h sv → z.toInt = gPt V x1.toInt → ((¬ gPt V x1.toInt = 0 ∧ clS hp1 (V, T, ty) n h sv) ∨ (gPt V x1.toInt = 0 ∧ clS hp1 (V, T, ty) n h sv ∧ rJ hp1 83 0 = ((mtC T (2 ^ x1.toInt.toNat) 1 (trL T 225).length : Nat) : Int))) → mc ≤ 1 → ms ≤ 6 → R (.inl (some (.int z))) hp1 mc ms) : cK (d + 20) 352 [.ref 0, .int x1, .ref 83] hp R := by
  refine cin (M := am_m352) rfl rfl rfl ?_
  refine cald 1 ⟨u352J, _, rfl⟩ rfl rfl ?_
  refine ccst 2 (0) ⟨u352J, _, rfl⟩ rfl (by decide) (fun z1 h1 => ?_)
  refine cald 3 ⟨u352J, _, rfl⟩ rfl rfl ?_
  refine cild 4 ⟨u352J, _, rfl⟩ rfl rfl ?_
  refine ccall (kd := 0) (t := 1) [.ref 0, .int _] [.int _, .ref 83] hI.1 ⟨u352J, _, rfl⟩ (Or.inl ⟨_, rfl, rfl, by decide, by decide⟩) rfl rfl rfl ⟨rfl, rfl, rfl⟩ rfl (recv0 hI.1 _) rfl (qKE (Φ := fun z hp1 => bHk 84 bTT hp1 ∧ cF hp hp1 ∧ gPt V x1.toInt = 0 ∧ clS hp1 (V, T, ty) n h sv ∧ z.toInt = ((mtC T (2 ^ x1.toInt.toNat) 1 (trL T 225).length : Nat) : Int)) (Ψ := fun E hp1 => lawI hp1 ∧ rfS hp1 (V, T, ty) n h sv ∧ clS hp1 (V, T, ty) n h sv ∧ ¬ gPt V x1.toInt = 0 ∧ ((gPt V x1.toInt = 1 ∧ E = 1))) (fun R g1 g2 => k_123E (d := d + 16) hI.1 c (fun E hp1 b1 b2 b3 e1 e2 => g2 E hp1 ⟨law_cl hI b1 b2, cF_rf b2 r, b3, e1, e2⟩) (fun z hp1 a1 a2 a3 a4 a5 => g1 z hp1 ⟨a1, a2, a3, a4, a5⟩)) (fun z hp1 φ => Or.inl ⟨_, rfl, ?_⟩) (fun E hp1 ψ => Or.inr ?_))
  · refine ci2lE 8 ⟨u352J, _, rfl⟩ rfl (fun w hw => ?_)
    refine clastE 9 φ.1 ⟨u352J, _, rfl⟩ rfl h1 (fun hp2 hH2 F2 J2 => ?_)
    refine cgoto ⟨u352J, _, rfl⟩ ?_
    refine ccst 16 (0) ⟨u352J, _, rfl⟩ rfl (by decide) (fun z9 h9 => ?_)
    exact cret ⟨u352J, _, rfl⟩ (Or.inl rfl) (hR _ _ _ _ (lawI_83 (law_cl hI φ.1 φ.2.1) hH2 F2) (rf_83 F2 (cF_rf φ.2.1 r)) (by rw [φ.2.2.1]; exact h9) (Or.inr ⟨φ.2.2.1, cl_83 F2 φ.2.2.2.1, by rw [J2, hw]; exact φ.2.2.2.2⟩) (by decide) (by decide))
  · obtain ⟨ψ0, ψr, ψc, ψ1, ψ2⟩ := ψ
    obtain ⟨ce, rfl⟩ := ψ2
    refine ⟨1, 12, 3, 13, rfl, rfl, rfl, rfl, ?_⟩
    refine ccst 14 (1) ⟨u352J, _, rfl⟩ rfl (by decide) (fun z9 h9 => ?_)
    exact cret ⟨u352J, _, rfl⟩ (Or.inl rfl) (hR _ _ _ _ ψ0 ψr (by rw [ce]; exact h9) (Or.inl ⟨ψ1, ψc⟩) (by decide) (by decide))
end
/-! ##### q13 ##### -/
section
/-! ===== uncovered on both sides ===== -/
def gNg (a : Int) : Int := if a < 0 then 1 else 0
theorem gNg_0 {a : Int} : gNg a = 0 ↔ 0 ≤ a := by unfold gNg; split <;> omega
theorem gNg_1 {a : Int} (h : a < 0) : gNg a = 1 := by unfold gNg; rw [if_pos h]
def unB (V : Nat) (T : sT) (n : Nat) : Bool := decide (n / 15 < n % 15 ∧ n % 15 < V ∧ T (n / 15) (n % 15) = -1)
/-- the pairs that no triple covers, before a code -/
abbrev unL (V : Nat) (T : sT) (n : Nat) : Nat := (fL (unB V T) n).length
def ucV (V : Nat) (T : sT) (x : Nat) : Int := if x < unL V T 225 then ((16 * ((fL (unB V T) 225).getD x 0 / 15) + (fL (unB V T) 225).getD x 0 % 15 : Nat) : Int) else -1
theorem un_in {V a b : Nat} {T : sT} (hb : b < 15) : unB V T (15 * a + b) = true ↔ (a < b ∧ b < V ∧ T a b = -1) := by
  unfold unB
  rw [decide_eq_true_iff, show (15 * a + b) / 15 = a by omega, show (15 * a + b) % 15 = b by omega]
theorem un_s1 {V a b : Nat} {T : sT} (hb : b < 15) (h : a < b ∧ b < V ∧ T a b = -1) : unL V T (15 * a + (b + 1)) = unL V T (15 * a + b) + 1 := by
  unfold unL
  rw [show 15 * a + (b + 1) = (15 * a + b) + 1 by omega, fL_add ((un_in hb).mpr h), List.length_append, List.length_singleton]
theorem un_s0 {V a b : Nat} {T : sT} (hb : b < 15) (h : ¬ (a < b ∧ b < V ∧ T a b = -1)) : unL V T (15 * a + (b + 1)) = unL V T (15 * a + b) := by
  unfold unL
  rw [show 15 * a + (b + 1) = (15 * a + b) + 1 by omega, fL_skip (fun z => h ((un_in hb).mp z))]
theorem un_row {V a b : Nat} {T : sT} (hV : V ≤ 15) (hb : V = b) : unL V T (15 * (a + 1)) = unL V T (15 * a + b) := by
  rw [← hb]
  unfold unL
  rw [fL_no (B := unB V T) (n := 15 * a + V) (n1 := 15 * (a + 1)) (by omega) (fun k k1 k2 => fun z => by
    have z := of_decide_eq_true z
    omega)]
theorem un_beg {V a : Nat} {T : sT} : unL V T (15 * a + (a + 1)) = unL V T (15 * a) := by
  unfold unL
  rw [fL_no (B := unB V T) (n := 15 * a) (n1 := 15 * a + (a + 1)) (by omega) (fun k k1 k2 => fun z => by
    have z := of_decide_eq_true z
    omega)]
theorem un_end {V a : Nat} {T : sT} (hV : V ≤ 15) (ha : V = a) : unL V T 225 = unL V T (15 * a) := by
  rw [← ha]
  unfold unL
  rw [fL_no (B := unB V T) (n := 15 * V) (n1 := 225) (by omega) (fun k k1 k2 => fun z => by
    have z := of_decide_eq_true z
    omega)]
theorem un_hit {V a b : Nat} {T : sT} (hV : V ≤ 15) (h : a < b ∧ b < V ∧ T a b = -1) : ucV V T (unL V T (15 * a + b)) = ((16 * a + b : Nat) : Int) := by
  obtain ⟨h1, h2⟩ := fL_at (m := 225) ((un_in (by omega)).mpr h) rfl (by omega)
  unfold ucV
  rw [if_pos h1, h2, show (15 * a + b) / 15 = a by omega, show (15 * a + b) % 15 = b by omega]
theorem un_le {V : Nat} {T : sT} (n : Nat) : unL V T n ≤ n := fL_n n
theorem u24 : bUp 0 am_m24.1 = true := by decide +kernel
theorem l24i {d x a V : Nat} {T : sT} {hp : amH} {R : xQ} {i wa : Int32} {o : Nat} (ho : bo o) (hH : bHk 84 bTT hp) (hB : bdOk hp o V T) (hi : i.toInt = (x : Int)) (ha : wa.toInt = (a : Int)) (aV : a < V)
    (hR : ∀ z : Int32, z.toInt = ucV V T x → R (.inl (some (.int z))) hp)
    (hQ : ∀ w wb : Int32, w.toInt = ((unL V T (15 * (a + 1)) : Nat) : Int) → unL V T (15 * (a + 1)) ≤ x → xV (d + 2) am_m24 61 [some (.ref o), some (.int i), some (.int w), some (.int wa), some (.int wb)] [] hp R) :
    ∀ (jj b : Nat) (w wb : Int32), wb.toInt = (b : Int) → a < b → b + jj = V → w.toInt = ((unL V T (15 * a + b) : Nat) : Int) → unL V T (15 * a + b) ≤ x → xV (d + 2) am_m24 17 [some (.ref o), some (.int i), some (.int w), some (.int wa), some (.int wb)] [] hp R := by
  have h15 : V ≤ 15 := hB.2.1.2.1
  have b0 := hB.1
  intro jj
  induction jj with
  | zero =>
    intro b w wb hb hab hj hw hle
    have e := un_row (V := V) (a := a) (b := b) (T := T) h15 (by omega)
    refine xild2 19 ⟨u24, _, rfl⟩ rfl rfl ?_
    refine xald 20 ⟨u24, _, rfl⟩ rfl rfl ?_
    refine xgetC 23 hH ⟨u24, _, rfl⟩ rfl (bo_lt ho) (by decide) (bo_T ho) rfl (by decide) (fun z20 h20 => ?_)
    refine xcmp_ge 26 ⟨u24, _, rfl⟩ rfl (fun c23 => ?_) (fun c23 => ?_)
    · exact hQ _ _ (by omega) (by omega)
    · omega
  | succ jj ih =>
    intro b w wb hb hab hj hw hle
    have ul := un_le (V := V) (T := T) (15 * a + b)
    have mw := aMax w
    have s1 := un_s1 (V := V) (a := a) (b := b) (T := T) (by omega)
    have s0 := un_s0 (V := V) (a := a) (b := b) (T := T) (by omega)
    have hit := un_hit (V := V) (a := a) (b := b) (T := T) h15
    refine xild2 19 ⟨u24, _, rfl⟩ rfl rfl ?_
    refine xald 20 ⟨u24, _, rfl⟩ rfl rfl ?_
    refine xgetC 23 hH ⟨u24, _, rfl⟩ rfl (bo_lt ho) (by decide) (bo_T ho) rfl (by decide) (fun z20 h20 => ?_)
    refine xcmp_ge 26 ⟨u24, _, rfl⟩ rfl (fun c23 => ?_) (fun c23 => ?_)
    · omega
    · refine xald 27 ⟨u24, _, rfl⟩ rfl rfl ?_
      refine xild 28 ⟨u24, _, rfl⟩ rfl rfl ?_
      refine xcallC 31 (o := o) [.int _] [] hH ⟨u24, _, rfl⟩ rfl rfl (bo_lt ho) (bo_T ho) (by decide) rfl ⟨rfl, rfl, rfl, rfl⟩ rfl (k_opn (x := a) ho hH hB ha (fun z28 h28 => ⟨_, rfl, ?_⟩))
      refine xild2 33 ⟨u24, _, rfl⟩ rfl rfl ?_
      refine xcallS 36 [.int _, .int _] [] hH ⟨u24, _, rfl⟩ rfl rfl rfl rfl rfl (k_has (m := opN V T a) (n := b) h28 (op_lt V T a) hb (by omega) (fun z33 h33 => ⟨_, rfl, ?_⟩))
      rw [op_test h15] at h33
      have h33 : (z33.toInt = 1 ∧ T a b = -1) ∨ (z33.toInt = 0 ∧ ¬ T a b = -1) := by
        by_cases q : T a b = -1
        · left; rw [h33, if_pos (decide_eq_true ⟨by omega, by omega, by omega, q⟩)]; exact ⟨rfl, q⟩
        · right; rw [h33, if_neg (fun z => q (of_decide_eq_true z).2.2.2)]; exact ⟨rfl, q⟩
      refine xif_eq 39 ⟨u24, _, rfl⟩ rfl (fun c36 => ?_) (fun c36 => ?_)
      · refine xinc 58 (1) ⟨u24, _, rfl⟩ rfl rfl rfl (by decide) (by omega) (by omega) (fun z55 h55 => ?_)
        refine xgoto ⟨u24, _, rfl⟩ ?_
        have s0 := s0 (by omega)
        exact ih (b + 1) _ _ (by omega) (by omega) (by omega) (by omega) (by omega)
      · refine xild 40 ⟨u24, _, rfl⟩ rfl rfl ?_
        refine xild 41 ⟨u24, _, rfl⟩ rfl rfl ?_
        refine xcmp_ne 44 ⟨u24, _, rfl⟩ rfl (fun c41 => ?_) (fun c41 => ?_)
        · refine xinc 55 (1) ⟨u24, _, rfl⟩ rfl rfl rfl (by decide) (by omega) (by omega) (fun z52 h52 => ?_)
          refine xinc 58 (1) ⟨u24, _, rfl⟩ rfl rfl rfl (by decide) (by omega) (by omega) (fun z55 h55 => ?_)
          refine xgoto ⟨u24, _, rfl⟩ ?_
          have s1 := s1 (by omega)
          exact ih (b + 1) _ _ (by omega) (by omega) (by omega) (by omega) (by omega)
        · refine xbip 46 (16) ⟨u24, _, rfl⟩ rfl (by decide) (fun z44 h44 => ?_)
          refine xild 47 ⟨u24, _, rfl⟩ rfl rfl ?_
          refine xmul 48 (16 * Int32.toInt wa) ⟨u24, _, rfl⟩ rfl (by rw [h44]) (by omega) (by omega) (fun z47 h47 => ?_)
          refine xild2 50 ⟨u24, _, rfl⟩ rfl rfl ?_
          refine xadd 51 _ ⟨u24, _, rfl⟩ rfl rfl (by omega) (by omega) (fun z50 h50 => ?_)
          exact xret ⟨u24, _, rfl⟩ rfl (hR _ (by rw [show x = unL V T (15 * a + b) by omega, hit (by omega)]; omega))
theorem l24o {d x V : Nat} {T : sT} {hp : amH} {R : xQ} {i : Int32} {o : Nat} (ho : bo o) (hH : bHk 84 bTT hp) (hB : bdOk hp o V T) (hi : i.toInt = (x : Int))
    (hR : ∀ z : Int32, z.toInt = ucV V T x → R (.inl (some (.int z))) hp) :
    ∀ (jj a : Nat) (w wa : Int32) (v : Option Value), wa.toInt = (a : Int) → a + jj = V → w.toInt = ((unL V T (15 * a) : Nat) : Int) → unL V T (15 * a) ≤ x → xV (d + 2) am_m24 4 [some (.ref o), some (.int i), some (.int w), some (.int wa), v] [] hp R := by
  have h15 : V ≤ 15 := hB.2.1.2.1
  have b0 := hB.1
  intro jj
  induction jj with
  | zero =>
    intro a w wa v ha hj hw hle
    have e := un_end (V := V) (a := a) (T := T) h15 (by omega)
    refine xild 5 ⟨u24, _, rfl⟩ rfl rfl ?_
    refine xald 6 ⟨u24, _, rfl⟩ rfl rfl ?_
    refine xgetC 9 hH ⟨u24, _, rfl⟩ rfl (bo_lt ho) (by decide) (bo_T ho) rfl (by decide) (fun z6 h6 => ?_)
    refine xcmp_ge 12 ⟨u24, _, rfl⟩ rfl (fun c9 => ?_) (fun c9 => ?_)
    · refine xcst 68 (-1) ⟨u24, _, rfl⟩ rfl (by decide) (fun z67 h67 => ?_)
      exact xret ⟨u24, _, rfl⟩ rfl (hR _ (by unfold ucV; rw [if_neg (by omega)]; omega))
    · omega
  | succ jj ih =>
    intro a w wa v ha hj hw hle
    have eb := un_beg (V := V) (a := a) (T := T)
    refine xild 5 ⟨u24, _, rfl⟩ rfl rfl ?_
    refine xald 6 ⟨u24, _, rfl⟩ rfl rfl ?_
    refine xgetC 9 hH ⟨u24, _, rfl⟩ rfl (bo_lt ho) (by decide) (bo_T ho) rfl (by decide) (fun z6 h6 => ?_)
    refine xcmp_ge 12 ⟨u24, _, rfl⟩ rfl (fun c9 => ?_) (fun c9 => ?_)
    · omega
    · refine xild 13 ⟨u24, _, rfl⟩ rfl rfl ?_
      refine xcst 14 (1) ⟨u24, _, rfl⟩ rfl (by decide) (fun z13 h13 => ?_)
      refine xadd 15 _ ⟨u24, _, rfl⟩ rfl rfl (by omega) (by omega) (fun z14 h14 => ?_)
      refine xist2 17 ⟨u24, _, rfl⟩ rfl rfl ?_
      refine l24i ho hH hB hi ha (by omega) hR (fun w1 wb1 r1 r2 => ?_) (V - (a + 1)) (a + 1) _ _ (by omega) (by omega) (by omega) (by omega) (by omega)
      refine xinc 64 (1) ⟨u24, _, rfl⟩ rfl rfl rfl (by decide) (by omega) (by omega) (fun z61 h61 => ?_)
      refine xgoto ⟨u24, _, rfl⟩ ?_
      exact ih (a + 1) _ _ _ (by omega) (by omega) r1 r2
theorem k_24E {d x o V : Nat} {T : sT} {hp : amH} {R : xQ} {i : Int32} (ho : bo o) (hH : bHk 84 bTT hp) (hB : bdOk hp o V T) (hi : i.toInt = (x : Int))
    (hR : ∀ z : Int32, z.toInt = ucV V T x → R (.inl (some (.int z))) hp) : xK (d + 2) 24 [.ref o, .int i] hp R := by
  refine xin (M := am_m24) rfl rfl (by unfold xAv; simp [amOk, bo_lt ho, Value.category]) ?_
  refine xcst 1 (0) ⟨u24, _, rfl⟩ rfl (by decide) (fun z0 h0 => ?_)
  refine xist 2 ⟨u24, _, rfl⟩ rfl rfl ?_
  refine xcst 3 (0) ⟨u24, _, rfl⟩ rfl (by decide) (fun z2 h2 => ?_)
  refine xist 4 ⟨u24, _, rfl⟩ rfl rfl ?_
  refine xpad 1 ?_
  exact l24o ho hH hB hi hR V 0 _ _ _ h2 (by omega) h0 (Nat.zero_le _)
theorem u124 : bUp 0 am_m124.1 = true := by decide +kernel
theorem k_124E {d V n : Nat} {h : Nat → sR} {sv : Option sR} {T : sT} {ty : Nat → Int} {hp : amH} {R : xQ} {a : Int32} (hH : bHk 84 bTT hp) (hS : clS hp (V, T, ty) n h sv)
    (hT : ∀ E hp1, bHk 84 bTT hp1 → cF hp hp1 → clS hp1 (V, T, ty) n h sv → ¬ gNg a.toInt = 0 → ((gNg a.toInt = 1 ∧ E = 1)) → R (.inr E) hp1)
    (hR : ∀ (z : Int32) hp1, bHk 84 bTT hp1 → cF hp hp1 → gNg a.toInt = 0 → clS hp1 (V, T, ty) n h sv → z.toInt = ucV V T a.toInt.toNat → R (.inl (some (.int z))) hp1) : xK (d + 4) 124 [.ref 0, .int a] hp R := by
  have hB : bdOk hp 3 V T := hS.1
  have b0 : rN hp 3 0 = (V : Int) := hB.1
  have hL : lsN hp 3 T 225 := hS.2.1
  have b1 : rN hp 3 1 = (((trL T 225).length : Nat) : Int) := hL.1
  have hT0 : sOk V T := hB.2.1
  have h15 : V ≤ 15 := hT0.2.1
  have l35 : (trL T 225).length ≤ 35 := trL_35 hT0 225
  have nq0 : rN hp 49 0 = ((nQ T : Nat) : Int) := hS.2.2.1.1
  refine xin (M := am_m124) rfl rfl rfl ?_
  refine xild 1 ⟨u124, _, rfl⟩ rfl rfl ?_
  refine xif_ge 4 ⟨u124, _, rfl⟩ rfl (fun c1 => ?_) (fun c1 => ?_)
  · refine xald 15 ⟨u124, _, rfl⟩ rfl rfl ?_
    refine xgetD 18 (3) hH ⟨u124, _, rfl⟩ rfl (by decide) (by decide) rfl rfl (by decide) ?_
    refine xild 19 ⟨u124, _, rfl⟩ rfl rfl ?_
    refine xcallC 22 (o := 3) [.int _] [] hH ⟨u124, _, rfl⟩ rfl rfl (by decide) rfl (by decide) rfl ⟨rfl, rfl, rfl, rfl⟩ rfl (k_24E (o := 3) (x := a.toInt.toNat) (Or.inl rfl) hH hB (by omega) (fun z19 h19 => ⟨_, rfl, ?_⟩))
    exact xret ⟨u124, _, rfl⟩ rfl (hR _ _ hH cF.refl (gNg_0.mpr (by omega)) hS h19)
  · exact xthr ⟨u124, _, rfl⟩ (by decide) rfl (by decide) (hT _ hp hH cF.refl hS (by rw [gNg_1 (by omega)]; decide) ⟨gNg_1 (by omega), rfl⟩)
theorem u268 : bUp 0 am_m268.1 = true := by decide +kernel
theorem l268i {d x a V : Nat} {T : sT} {hp : amH} {R : xQ} {i wa : Int32} (hH : bHk 84 bTT hp) (hB : rdOk hp V T) (hi : i.toInt = (x : Int)) (ha : wa.toInt = (a : Int)) (aV : a < V)
    (hR : ∀ z : Int32, z.toInt = ucV V T x → R (.inl (some (.int z))) hp)
    (hQ : ∀ w wb : Int32, w.toInt + ((unL V T (15 * (a + 1)) : Nat) : Int) = (x : Int) → unL V T (15 * (a + 1)) ≤ x → xV (d + 1) am_m268 85 [some (.ref 66), some (.int i), some (.int w), some (.int wa), some (.int wb)] [] hp R) :
    ∀ (jj b : Nat) (w wb : Int32), wb.toInt = (b : Int) → a < b → b + jj = V → w.toInt + ((unL V T (15 * a + b) : Nat) : Int) = (x : Int) → unL V T (15 * a + b) ≤ x → xV (d + 1) am_m268 41 [some (.ref 66), some (.int i), some (.int w), some (.int wa), some (.int wb)] [] hp R := by
  have h15 : V ≤ 15 := hB.2.1.2.1
  have b0 : rN hp 67 0 = (V : Int) := hB.1
  intro jj
  induction jj with
  | zero =>
    intro b w wb hb hab hj hw hle
    have e := un_row (V := V) (a := a) (b := b) (T := T) h15 (by omega)
    refine xild2 43 ⟨u268, _, rfl⟩ rfl rfl ?_
    refine xald 44 ⟨u268, _, rfl⟩ rfl rfl ?_
    refine xcall 47 [.ref 66] [.int _] hH ⟨u268, _, rfl⟩ rfl rfl rfl rfl rfl (k_points hH (fun z44 h44 => ⟨_, rfl, ?_⟩))
    refine xcmp_ge 50 ⟨u268, _, rfl⟩ rfl (fun c47 => ?_) (fun c47 => ?_)
    · exact hQ _ _ (by omega) (by omega)
    · omega
  | succ jj ih =>
    intro b w wb hb hab hj hw hle
    have ul := un_le (V := V) (T := T) (15 * a + b)
    have mw := aMax w
    have s1 := un_s1 (V := V) (a := a) (b := b) (T := T) (by omega)
    have s0 := un_s0 (V := V) (a := a) (b := b) (T := T) (by omega)
    have hit := un_hit (V := V) (a := a) (b := b) (T := T) h15
    refine xild2 43 ⟨u268, _, rfl⟩ rfl rfl ?_
    refine xald 44 ⟨u268, _, rfl⟩ rfl rfl ?_
    refine xcall 47 [.ref 66] [.int _] hH ⟨u268, _, rfl⟩ rfl rfl rfl rfl rfl (k_points hH (fun z44 h44 => ⟨_, rfl, ?_⟩))
    refine xcmp_ge 50 ⟨u268, _, rfl⟩ rfl (fun c47 => ?_) (fun c47 => ?_)
    · omega
    · refine xald 51 ⟨u268, _, rfl⟩ rfl rfl ?_
      refine xild 52 ⟨u268, _, rfl⟩ rfl rfl ?_
      refine xild2 54 ⟨u268, _, rfl⟩ rfl rfl ?_
      refine xcall 57 [.ref 66, .int _, .int _] [] hH ⟨u268, _, rfl⟩ rfl rfl rfl rfl rfl (k_third hH (by omega) (by omega) (by omega) (by omega) (fun z54 h54 => ⟨_, rfl, ?_⟩))
      have h54 : z54.toInt = T a b := by rw [h54, hB.2.2.1 _ _ (by omega) (by omega), show wa.toInt.toNat = a by omega, show wb.toInt.toNat = b by omega]
      refine xcst 58 (-1) ⟨u268, _, rfl⟩ rfl (by decide) (fun z57 h57 => ?_)
      refine xcmp_eq 61 ⟨u268, _, rfl⟩ rfl (fun c58 => ?_) (fun c58 => ?_)
      · refine xild 65 ⟨u268, _, rfl⟩ rfl rfl ?_
        refine xif_ne 68 ⟨u268, _, rfl⟩ rfl (fun c65 => ?_) (fun c65 => ?_)
        · refine xinc 79 (-1) ⟨u268, _, rfl⟩ rfl rfl rfl (by decide) (by omega) (by omega) (fun z76 h76 => ?_)
          refine xinc 82 (1) ⟨u268, _, rfl⟩ rfl rfl rfl (by decide) (by omega) (by omega) (fun z79 h79 => ?_)
          refine xgoto ⟨u268, _, rfl⟩ ?_
          have s1 := s1 (by omega)
          exact ih (b + 1) _ _ (by omega) (by omega) (by omega) (by omega) (by omega)
        · refine xbip 70 (16) ⟨u268, _, rfl⟩ rfl (by decide) (fun z68 h68 => ?_)
          refine xild 71 ⟨u268, _, rfl⟩ rfl rfl ?_
          refine xmul 72 (16 * Int32.toInt wa) ⟨u268, _, rfl⟩ rfl (by rw [h68]) (by omega) (by omega) (fun z71 h71 => ?_)
          refine xild2 74 ⟨u268, _, rfl⟩ rfl rfl ?_
          refine xadd 75 _ ⟨u268, _, rfl⟩ rfl rfl (by omega) (by omega) (fun z74 h74 => ?_)
          exact xret ⟨u268, _, rfl⟩ rfl (hR _ (by rw [show x = unL V T (15 * a + b) by omega, hit (by omega)]; omega))
      · refine xgoto ⟨u268, _, rfl⟩ ?_
        refine xinc 82 (1) ⟨u268, _, rfl⟩ rfl rfl rfl (by decide) (by omega) (by omega) (fun z79 h79 => ?_)
        refine xgoto ⟨u268, _, rfl⟩ ?_
        have s0 := s0 (by omega)
        exact ih (b + 1) _ _ (by omega) (by omega) (by omega) (by omega) (by omega)
theorem l268o {d x V : Nat} {T : sT} {hp : amH} {R : xQ} {i : Int32} (hH : bHk 84 bTT hp) (hB : rdOk hp V T) (hi : i.toInt = (x : Int))
    (hR : ∀ z : Int32, z.toInt = ucV V T x → R (.inl (some (.int z))) hp) :
    ∀ (jj a : Nat) (w wa : Int32) (v : Option Value), wa.toInt = (a : Int) → a + jj = V → w.toInt + ((unL V T (15 * a) : Nat) : Int) = (x : Int) → unL V T (15 * a) ≤ x → xV (d + 1) am_m268 28 [some (.ref 66), some (.int i), some (.int w), some (.int wa), v] [] hp R := by
  have h15 : V ≤ 15 := hB.2.1.2.1
  have b0 : rN hp 67 0 = (V : Int) := hB.1
  intro jj
  induction jj with
  | zero =>
    intro a w wa v ha hj hw hle
    have e := un_end (V := V) (a := a) (T := T) h15 (by omega)
    refine xild 29 ⟨u268, _, rfl⟩ rfl rfl ?_
    refine xald 30 ⟨u268, _, rfl⟩ rfl rfl ?_
    refine xcall 33 [.ref 66] [.int _] hH ⟨u268, _, rfl⟩ rfl rfl rfl rfl rfl (k_points hH (fun z30 h30 => ⟨_, rfl, ?_⟩))
    refine xcmp_ge 36 ⟨u268, _, rfl⟩ rfl (fun c33 => ?_) (fun c33 => ?_)
    · refine xcst 92 (-1) ⟨u268, _, rfl⟩ rfl (by decide) (fun z91 h91 => ?_)
      exact xret ⟨u268, _, rfl⟩ rfl (hR _ (by unfold ucV; rw [if_neg (by omega)]; omega))
    · omega
  | succ jj ih =>
    intro a w wa v ha hj hw hle
    have eb := un_beg (V := V) (a := a) (T := T)
    refine xild 29 ⟨u268, _, rfl⟩ rfl rfl ?_
    refine xald 30 ⟨u268, _, rfl⟩ rfl rfl ?_
    refine xcall 33 [.ref 66] [.int _] hH ⟨u268, _, rfl⟩ rfl rfl rfl rfl rfl (k_points hH (fun z30 h30 => ⟨_, rfl, ?_⟩))
    refine xcmp_ge 36 ⟨u268, _, rfl⟩ rfl (fun c33 => ?_) (fun c33 => ?_)
    · omega
    · refine xild 37 ⟨u268, _, rfl⟩ rfl rfl ?_
      refine xcst 38 (1) ⟨u268, _, rfl⟩ rfl (by decide) (fun z37 h37 => ?_)
      refine xadd 39 _ ⟨u268, _, rfl⟩ rfl rfl (by omega) (by omega) (fun z38 h38 => ?_)
      refine xist2 41 ⟨u268, _, rfl⟩ rfl rfl ?_
      refine l268i hH hB hi ha (by omega) hR (fun w1 wb1 r1 r2 => ?_) (V - (a + 1)) (a + 1) _ _ (by omega) (by omega) (by omega) (by omega) (by omega)
      refine xinc 88 (1) ⟨u268, _, rfl⟩ rfl rfl rfl (by decide) (by omega) (by omega) (fun z85 h85 => ?_)
      refine xgoto ⟨u268, _, rfl⟩ ?_
      exact ih (a + 1) _ _ _ (by omega) (by omega) r1 r2
theorem k_268E {d V n : Nat} {h : Nat → sR} {sv : Option sR} {T : sT} {ty : Nat → Int} {hp : amH} {R : xQ} {a : Int32} (hH : bHk 84 bTT hp) (hP : P0 hp) (hS : rfS hp (V, T, ty) n h sv)
    (hR : ∀ (z : Int32) hp1, bHk 84 bTT hp1 → P0 hp1 → bFr wM hp hp1 → rN hp1 66 7 = gNg a.toInt → ((¬ gNg a.toInt = 0 ∧ rfS hp1 (V, T, ty) n h sv) ∨ (gNg a.toInt = 0 ∧ rfS hp1 (V, T, ty) n h sv ∧ z.toInt = ucV V T a.toInt.toNat)) → R (.inl (some (.int z))) hp1) : xK (d + 3) 268 [.ref 66, .int a] hp R := by
  have hB : rdOk hp V T := rowOk_rd hS.1
  have b0 : rN hp 67 0 = (V : Int) := hB.1
  have hT0 : sOk V T := hB.2.1
  have h15 : V ≤ 15 := hT0.2.1
  have l35 : (trL T 225).length ≤ 35 := trL_35 hT0 225
  refine xin (M := am_m268) rfl rfl rfl ?_
  refine xald 1 ⟨u268, _, rfl⟩ rfl rfl ?_
  refine xcst 2 (0) ⟨u268, _, rfl⟩ rfl (by decide) (fun z1 h1 => ?_)
  refine xputI 5 hH ⟨u268, _, rfl⟩ rfl rfl ⟨rfl, rfl⟩ (by omega) (by omega) (fun hp2 hH2 U2 => ?_)
  have s2 := U2.1
  have S2 := rfS_W (W := [(66, 7)]) hS (rU_fr U2 rfl) (fun _ => rfl) rfl rfl (fun _ => rfl) (fun _ => rfl)
  have P2 := P0_W (W := [(66, 7)]) (by decide) (rU_fr U2 rfl) hP
  refine xald 6 ⟨u268, _, rfl⟩ rfl rfl ?_
  refine xild 7 ⟨u268, _, rfl⟩ rfl rfl ?_
  refine xif_ge 10 ⟨u268, _, rfl⟩ rfl (fun c7 => ?_) (fun c7 => ?_)
  · refine xcst 15 (0) ⟨u268, _, rfl⟩ rfl (by decide) (fun z14 h14 => ?_)
    refine xcst 16 (1) ⟨u268, _, rfl⟩ rfl (by decide) (fun z15 h15 => ?_)
    refine xcall 19 [.ref 66, .int _, .int _] [] hH2 ⟨u268, _, rfl⟩ rfl rfl rfl rfl rfl (k_failsE hH2 (by omega) (fun hp16 hH16 V16 => ⟨_, rfl, ?_⟩))
    refine xif_eq 22 ⟨u268, _, rfl⟩ rfl (fun c19 => ?_) (fun c19 => ?_)
    · have hpe : hp2 = hp16 := by
        rcases V16 with ⟨q1, e⟩ | ⟨q1, -⟩
        · exact e.symm
        · omega
      subst hpe
      have g0 : gNg a.toInt = 0 := gNg_0.mpr (by omega)
      refine xild 25 ⟨u268, _, rfl⟩ rfl rfl ?_
      refine xist 26 ⟨u268, _, rfl⟩ rfl rfl ?_
      refine xcst 27 (0) ⟨u268, _, rfl⟩ rfl (by decide) (fun z26 h26 => ?_)
      refine xist 28 ⟨u268, _, rfl⟩ rfl rfl ?_
      refine xpad 1 ?_
      exact l268o (V := V) (T := T) hH16 (show rdOk hp2 V T from rowOk_rd S2.1) (x := a.toInt.toNat) (by omega) (fun z h => hR z hp2 hH16 P2 (rU_fr U2 (by decide)) (by rw [U2.1, g0]; exact h1) (Or.inr ⟨g0, S2, h⟩)) V 0 _ _ _ h26 (by omega) (by have : unL V T (15 * 0) = 0 := rfl; omega) (Nat.zero_le _)
    · rcases V16 with ⟨q1, -⟩ | ⟨q1, -⟩ <;> omega
  · refine xcst 11 (1) ⟨u268, _, rfl⟩ rfl (by decide) (fun z10 h10 => ?_)
    refine xgoto ⟨u268, _, rfl⟩ ?_
    refine xcst 16 (1) ⟨u268, _, rfl⟩ rfl (by decide) (fun z15 h15 => ?_)
    refine xcall 19 [.ref 66, .int _, .int _] [] hH2 ⟨u268, _, rfl⟩ rfl rfl rfl rfl rfl (k_failsE hH2 (by omega) (fun hp16 hH16 V16 => ⟨_, rfl, ?_⟩))
    refine xif_eq 22 ⟨u268, _, rfl⟩ rfl (fun c19 => ?_) (fun c19 => ?_)
    · rcases V16 with ⟨q1, -⟩ | ⟨q1, -⟩ <;> omega
    · refine xcst 23 (0) ⟨u268, _, rfl⟩ rfl (by decide) (fun z22 h22 => ?_)
      rcases V16 with ⟨q1, -⟩ | ⟨q1, U⟩
      · omega
      · have g1 := gNg_1 (show a.toInt < 0 by omega)
        exact xret ⟨u268, _, rfl⟩ rfl (hR _ hp16 hH16 (P0_W (W := [(66, 7)]) (by decide) (rU_fr U rfl) P2) ((rU_fr U2 (by decide)).trans (rU_fr U (by decide))) (by rw [U.1, g1]; omega) (Or.inl ⟨by rw [g1]; decide, rfS_W (W := [(66, 7)]) S2 (rU_fr U rfl) (fun _ => rfl) rfl rfl (fun _ => rfl) (fun _ => rfl)⟩))
theorem h353E {d : Nat} {hp : amH} {R : cQ} {x1 : Int32} {V n : Nat} {h : Nat → sR} {sv : Option sR} {T : sT} {ty : Nat → Int} (hI : lawI hp) (c : clS hp (V, T, ty) n h sv) (r : rfS hp (V, T, ty) n h sv)
    (hR : ∀ (z : Int32) hp1 mc ms, lawI hp1 → rfS hp1 (V, T, ty) n h sv → z.toInt = gNg x1.toInt → ((¬ gNg x1.toInt = 0 ∧ clS hp1 (V, T, ty) n h sv) ∨ (gNg x1.toInt = 0 ∧ clS hp1 (V, T, ty) n h sv ∧ rJ hp1 83 0 = ucV V T x1.toInt.toNat)) → mc ≤ 1 → ms ≤ 6 → R (.inl (some (.int z))) hp1 mc ms) : cK (d + 20) 353 [.ref 0, .int x1, .ref 83] hp R := by
  refine cin (M := am_m353) rfl rfl rfl ?_
  refine cald 1 ⟨u353J, _, rfl⟩ rfl rfl ?_
  refine ccst 2 (0) ⟨u353J, _, rfl⟩ rfl (by decide) (fun z1 h1 => ?_)
  refine cald 3 ⟨u353J, _, rfl⟩ rfl rfl ?_
  refine cild 4 ⟨u353J, _, rfl⟩ rfl rfl ?_
  refine ccall (kd := 0) (t := 1) [.ref 0, .int _] [.int _, .ref 83] hI.1 ⟨u353J, _, rfl⟩ (Or.inl ⟨_, rfl, rfl, by decide, by decide⟩) rfl rfl rfl ⟨rfl, rfl, rfl⟩ rfl (recv0 hI.1 _) rfl (qKE (Φ := fun z hp1 => bHk 84 bTT hp1 ∧ cF hp hp1 ∧ gNg x1.toInt = 0 ∧ clS hp1 (V, T, ty) n h sv ∧ z.toInt = ucV V T x1.toInt.toNat) (Ψ := fun E hp1 => lawI hp1 ∧ rfS hp1 (V, T, ty) n h sv ∧ clS hp1 (V, T, ty) n h sv ∧ ¬ gNg x1.toInt = 0 ∧ ((gNg x1.toInt = 1 ∧ E = 1))) (fun R g1 g2 => k_124E (d := d + 15) hI.1 c (fun E hp1 b1 b2 b3 e1 e2 => g2 E hp1 ⟨law_cl hI b1 b2, cF_rf b2 r, b3, e1, e2⟩) (fun z hp1 a1 a2 a3 a4 a5 => g1 z hp1 ⟨a1, a2, a3, a4, a5⟩)) (fun z hp1 φ => Or.inl ⟨_, rfl, ?_⟩) (fun E hp1 ψ => Or.inr ?_))
  · refine ci2lE 8 ⟨u353J, _, rfl⟩ rfl (fun w hw => ?_)
    refine clastE 9 φ.1 ⟨u353J, _, rfl⟩ rfl h1 (fun hp2 hH2 F2 J2 => ?_)
    refine cgoto ⟨u353J, _, rfl⟩ ?_
    refine ccst 16 (0) ⟨u353J, _, rfl⟩ rfl (by decide) (fun z9 h9 => ?_)
    exact cret ⟨u353J, _, rfl⟩ (Or.inl rfl) (hR _ _ _ _ (lawI_83 (law_cl hI φ.1 φ.2.1) hH2 F2) (rf_83 F2 (cF_rf φ.2.1 r)) (by rw [φ.2.2.1]; exact h9) (Or.inr ⟨φ.2.2.1, cl_83 F2 φ.2.2.2.1, by rw [J2, hw]; exact φ.2.2.2.2⟩) (by decide) (by decide))
  · obtain ⟨ψ0, ψr, ψc, ψ1, ψ2⟩ := ψ
    obtain ⟨ce, rfl⟩ := ψ2
    refine ⟨1, 12, 3, 13, rfl, rfl, rfl, rfl, ?_⟩
    refine ccst 14 (1) ⟨u353J, _, rfl⟩ rfl (by decide) (fun z9 h9 => ?_)
    exact cret ⟨u353J, _, rfl⟩ (Or.inl rfl) (hR _ _ _ _ ψ0 ψr (by rw [ce]; exact h9) (Or.inl ⟨ψ1, ψc⟩) (by decide) (by decide))
end
/-! ##### q14 ##### -/
section
/-! ===== reason on both sides ===== -/
theorem u125 : bUp 0 am_m125.1 = true := by decide +kernel
theorem k_125E {d V n : Nat} {h : Nat → sR} {sv : Option sR} {T : sT} {ty : Nat → Int} {hp : amH} {R : xQ} {a b c : Int32} (hH : bHk 84 bTT hp) (hS : clS hp (V, T, ty) n h sv)
    (hT : ∀ E hp1, bHk 84 bTT hp1 → cF hp hp1 → clS hp1 (V, T, ty) n h sv → ¬ gSet V a.toInt b.toInt c.toInt = 0 → ((gSet V a.toInt b.toInt c.toInt = 1 ∧ E = 1) ∨ (gSet V a.toInt b.toInt c.toInt = 2 ∧ E = 0)) → R (.inr E) hp1)
    (hR : ∀ (z : Int32) hp1, bHk 84 bTT hp1 → cF hp hp1 → gSet V a.toInt b.toInt c.toInt = 0 → clS hp1 (V, T, ty) n h sv → z.toInt = rsn T a.toInt.toNat b.toInt.toNat c.toInt.toNat → R (.inl (some (.int z))) hp1) : xK (d + 4) 125 [.ref 0, .int a, .int b, .int c] hp R := by
  have hB : bdOk hp 3 V T := hS.1
  have b0 : rN hp 3 0 = (V : Int) := hB.1
  have hL : lsN hp 3 T 225 := hS.2.1
  have b1 : rN hp 3 1 = (((trL T 225).length : Nat) : Int) := hL.1
  have hT0 : sOk V T := hB.2.1
  have h15 : V ≤ 15 := hT0.2.1
  have l35 : (trL T 225).length ≤ 35 := trL_35 hT0 225
  have nq0 : rN hp 49 0 = ((nQ T : Nat) : Int) := hS.2.2.1.1
  refine xin (M := am_m125) rfl rfl rfl ?_
  refine xald 1 ⟨u125, _, rfl⟩ rfl rfl ?_
  refine xild 2 ⟨u125, _, rfl⟩ rfl rfl ?_
  refine xild 3 ⟨u125, _, rfl⟩ rfl rfl ?_
  refine xild 4 ⟨u125, _, rfl⟩ rfl rfl ?_
  refine xcallT 7 (o := 0) [.int _, .int _, .int _] [] hH ⟨u125, _, rfl⟩ rfl rfl (by decide) rfl (by decide) rfl ⟨rfl, rfl, rfl, rfl⟩ rfl (k_rq3 hH b0 (fun g4 => Or.inl ⟨_, rfl, ?_⟩) (fun g4 => Or.inr ⟨_, rfl, rfl, hT _ hp hH cF.refl hS (by omega) (Or.inl ⟨g4, rfl⟩)⟩) (fun g4 => Or.inr ⟨_, rfl, rfl, hT _ hp hH cF.refl hS (by omega) (Or.inr ⟨g4, rfl⟩)⟩))
  have k4 := gSet_0.mp g4
  refine xild 8 ⟨u125, _, rfl⟩ rfl rfl ?_
  refine xild 9 ⟨u125, _, rfl⟩ rfl rfl ?_
  refine xild 10 ⟨u125, _, rfl⟩ rfl rfl ?_
  refine xcallS 13 [.int _, .int _, .int _] [] hH ⟨u125, _, rfl⟩ rfl rfl rfl rfl rfl (k_three (x := a.toInt.toNat) (y := b.toInt.toNat) (z := c.toInt.toNat) (by omega) (by omega) (by omega) (by omega) (by omega) (by omega) (fun z10 h10 => ⟨_, rfl, ?_⟩))
  refine xist2 15 ⟨u125, _, rfl⟩ rfl rfl ?_
  refine xald 16 ⟨u125, _, rfl⟩ rfl rfl ?_
  refine xgetD 19 (3) hH ⟨u125, _, rfl⟩ rfl (by decide) (by decide) rfl rfl (by decide) ?_
  refine xild2 21 ⟨u125, _, rfl⟩ rfl rfl ?_
  refine xcallC 24 (o := 3) [.int _] [] hH ⟨u125, _, rfl⟩ rfl rfl (by decide) rfl (by decide) rfl ⟨rfl, rfl, rfl, rfl⟩ rfl (k_hld (o := 3) (a := a.toInt.toNat) (b := b.toInt.toNat) (c := c.toInt.toNat) (Or.inl rfl) hH hB h10 (by omega) (by omega) (by omega) (by omega) (by omega) (by omega) (fun z21 h21 => ⟨_, rfl, ?_⟩))
  refine xif_eq 27 ⟨u125, _, rfl⟩ rfl (fun c24 => ?_) (fun c24 => ?_)
  · refine xald 30 ⟨u125, _, rfl⟩ rfl rfl ?_
    refine xgetD 33 (3) hH ⟨u125, _, rfl⟩ rfl (by decide) (by decide) rfl rfl (by decide) ?_
    refine xild2 35 ⟨u125, _, rfl⟩ rfl rfl ?_
    refine xcst 36 (2) ⟨u125, _, rfl⟩ rfl (by decide) (fun z35 h35 => ?_)
    refine xcallC 39 (o := 3) [.int _, .int _] [] hH ⟨u125, _, rfl⟩ rfl rfl (by decide) rfl (by decide) rfl ⟨rfl, rfl, rfl, rfl⟩ rfl (k_26E (m := m3 a.toInt.toNat b.toInt.toNat c.toInt.toNat) hT0 hH hL h10 (m3_lt (by omega) (by omega) (by omega)) (fun z36 h36 => ⟨_, rfl, ?_⟩))
    rw [h35, mt_3 hT0 (by omega) (by omega) (by omega) (by omega) (by omega) (by omega)] at h36
    unfold iwV at h36
    have ec : c.toInt = ((c.toInt.toNat : Nat) : Int) := by omega
    rw [if_neg (by rcases h21 with ⟨q, -⟩ | ⟨-, q⟩; omega; exact q)] at h36
    refine xist2 41 ⟨u125, _, rfl⟩ rfl rfl ?_
    have v1 := cvT_01 T a.toInt.toNat b.toInt.toNat
    have v2 := cvT_01 T b.toInt.toNat c.toInt.toNat
    have v3 := cvT_01 T a.toInt.toNat c.toInt.toNat
    refine xild2 43 ⟨u125, _, rfl⟩ rfl rfl ?_
    refine xif_ne 46 ⟨u125, _, rfl⟩ rfl (fun c43 => ?_) (fun c43 => ?_)
    · refine xcst 51 (1) ⟨u125, _, rfl⟩ rfl (by decide) (fun z50 h50 => ?_)
      refine xild2 53 ⟨u125, _, rfl⟩ rfl rfl ?_
      refine xadd 54 _ ⟨u125, _, rfl⟩ rfl rfl (by omega) (by omega) (fun z53 h53 => ?_)
      exact xret ⟨u125, _, rfl⟩ rfl (hR _ _ hH cF.refl g4 hS (by unfold rsn; rw [if_neg (by rcases h21 with ⟨q, -⟩ | ⟨-, q⟩; omega; exact q), if_neg (by omega)]; omega))
    · refine xcst 47 (0) ⟨u125, _, rfl⟩ rfl (by decide) (fun z46 h46 => ?_)
      refine xgoto ⟨u125, _, rfl⟩ ?_
      exact xret ⟨u125, _, rfl⟩ rfl (hR _ _ hH cF.refl g4 hS (by unfold rsn; rw [if_neg (by rcases h21 with ⟨q, -⟩ | ⟨-, q⟩; omega; exact q), if_pos (by omega)]; exact h46))
  · refine xcst 28 (1) ⟨u125, _, rfl⟩ rfl (by decide) (fun z27 h27 => ?_)
    exact xret ⟨u125, _, rfl⟩ rfl (hR _ _ hH cF.refl g4 hS (by unfold rsn; rw [if_pos (by rcases h21 with ⟨-, q⟩ | ⟨q, -⟩; exact q; omega)]; exact h27))
theorem u270 : bUp 0 am_m270.1 = true := by decide +kernel
theorem k_270E {d V n : Nat} {h : Nat → sR} {sv : Option sR} {T : sT} {ty : Nat → Int} {hp : amH} {R : xQ} {a b c : Int32} (hH : bHk 84 bTT hp) (hP : P0 hp) (hS : rfS hp (V, T, ty) n h sv)
    (hR : ∀ (z : Int32) hp1, bHk 84 bTT hp1 → P0 hp1 → bFr wM hp hp1 → rN hp1 66 7 = gSet V a.toInt b.toInt c.toInt → ((¬ gSet V a.toInt b.toInt c.toInt = 0 ∧ rfS hp1 (V, T, ty) n h sv) ∨ (gSet V a.toInt b.toInt c.toInt = 0 ∧ rfS hp1 (V, T, ty) n h sv ∧ z.toInt = rsn T a.toInt.toNat b.toInt.toNat c.toInt.toNat)) → R (.inl (some (.int z))) hp1) : xK (d + 4) 270 [.ref 66, .int a, .int b, .int c] hp R := by
  have hB : rdOk hp V T := rowOk_rd hS.1
  have b0 : rN hp 67 0 = (V : Int) := hB.1
  have hT0 : sOk V T := hB.2.1
  have h15 : V ≤ 15 := hT0.2.1
  have l35 : (trL T 225).length ≤ 35 := trL_35 hT0 225
  refine xin (M := am_m270) rfl rfl rfl ?_
  refine xald 1 ⟨u270, _, rfl⟩ rfl rfl ?_
  refine xild 2 ⟨u270, _, rfl⟩ rfl rfl ?_
  refine xild 3 ⟨u270, _, rfl⟩ rfl rfl ?_
  refine xild 4 ⟨u270, _, rfl⟩ rfl rfl ?_
  refine xcall 7 [.ref 66, .int _, .int _, .int _] [] hH ⟨u270, _, rfl⟩ rfl rfl rfl rfl rfl (k_gp3 hH b0 h15 (fun z4 hp4 hH4 F4 t4 o4 => ⟨_, rfl, ?_⟩))
  have S4 := rfS_W hS F4 (fun _ => rfl) rfl rfl (fun _ => rfl) (fun _ => rfl)
  have P4 : P0 hp4 := P0_W (W := [(66, 7)]) (by decide) F4 hP
  refine xif_eq 10 ⟨u270, _, rfl⟩ rfl (fun c7 => ?_) (fun c7 => ?_)
  · have g4 : gSet V a.toInt b.toInt c.toInt = 0 := by omega
    have k4 := gSet_0.mp g4
    refine xald 15 ⟨u270, _, rfl⟩ rfl rfl ?_
    refine xild 16 ⟨u270, _, rfl⟩ rfl rfl ?_
    refine xild 17 ⟨u270, _, rfl⟩ rfl rfl ?_
    refine xild 18 ⟨u270, _, rfl⟩ rfl rfl ?_
    refine xcall 21 [.ref 66, .int _, .int _, .int _] [] hH4 ⟨u270, _, rfl⟩ rfl rfl rfl rfl rfl (k_rrea hH4 (V := V) (T := T) (show rdOk hp4 V T from rowOk_rd S4.1) (x := a.toInt.toNat) (y := b.toInt.toNat) (z := c.toInt.toNat) (by omega) (by omega) (by omega) (by omega) (by omega) (by omega) (fun z18 h18 => ⟨_, rfl, ?_⟩))
    exact xret ⟨u270, _, rfl⟩ rfl (hR _ hp4 hH4 P4 (bFr_sub F4 (by decide)) t4 (Or.inr ⟨g4, S4, h18⟩))
  · refine xcst 11 (0) ⟨u270, _, rfl⟩ rfl (by decide) (fun z10 h10 => ?_)
    refine xgoto ⟨u270, _, rfl⟩ ?_
    exact xret ⟨u270, _, rfl⟩ rfl (hR _ hp4 hH4 P4 (bFr_sub F4 (by decide)) t4 (Or.inl ⟨by omega, S4⟩))
theorem h354E {d : Nat} {hp : amH} {R : cQ} {x1 x2 x3 : Int32} {V n : Nat} {h : Nat → sR} {sv : Option sR} {T : sT} {ty : Nat → Int} (hI : lawI hp) (c : clS hp (V, T, ty) n h sv) (r : rfS hp (V, T, ty) n h sv)
    (hR : ∀ (z : Int32) hp1 mc ms, lawI hp1 → rfS hp1 (V, T, ty) n h sv → z.toInt = gSet V x1.toInt x2.toInt x3.toInt → ((¬ gSet V x1.toInt x2.toInt x3.toInt = 0 ∧ clS hp1 (V, T, ty) n h sv) ∨ (gSet V x1.toInt x2.toInt x3.toInt = 0 ∧ clS hp1 (V, T, ty) n h sv ∧ rJ hp1 83 0 = rsn T x1.toInt.toNat x2.toInt.toNat x3.toInt.toNat)) → mc ≤ 1 → ms ≤ 6 → R (.inl (some (.int z))) hp1 mc ms) : cK (d + 20) 354 [.ref 0, .int x1, .int x2, .int x3, .ref 83] hp R := by
  refine cin (M := am_m354) rfl rfl rfl ?_
  refine cald2 2 ⟨u354J, _, rfl⟩ rfl rfl ?_
  refine ccst 3 (0) ⟨u354J, _, rfl⟩ rfl (by decide) (fun z2 h2 => ?_)
  refine cald 4 ⟨u354J, _, rfl⟩ rfl rfl ?_
  refine cild 5 ⟨u354J, _, rfl⟩ rfl rfl ?_
  refine cild 6 ⟨u354J, _, rfl⟩ rfl rfl ?_
  refine cild 7 ⟨u354J, _, rfl⟩ rfl rfl ?_
  refine ccall (kd := 0) (t := 2) [.ref 0, .int _, .int _, .int _] [.int _, .ref 83] hI.1 ⟨u354J, _, rfl⟩ (Or.inl ⟨_, rfl, rfl, by decide, by decide⟩) rfl rfl rfl ⟨rfl, rfl, rfl⟩ rfl (recv0 hI.1 _) rfl (qKE (Φ := fun z hp1 => bHk 84 bTT hp1 ∧ cF hp hp1 ∧ gSet V x1.toInt x2.toInt x3.toInt = 0 ∧ clS hp1 (V, T, ty) n h sv ∧ z.toInt = rsn T x1.toInt.toNat x2.toInt.toNat x3.toInt.toNat) (Ψ := fun E hp1 => lawI hp1 ∧ rfS hp1 (V, T, ty) n h sv ∧ clS hp1 (V, T, ty) n h sv ∧ ¬ gSet V x1.toInt x2.toInt x3.toInt = 0 ∧ ((gSet V x1.toInt x2.toInt x3.toInt = 1 ∧ E = 1) ∨ (gSet V x1.toInt x2.toInt x3.toInt = 2 ∧ E = 0))) (fun R g1 g2 => k_125E (d := d + 15) hI.1 c (fun E hp1 b1 b2 b3 e1 e2 => g2 E hp1 ⟨law_cl hI b1 b2, cF_rf b2 r, b3, e1, e2⟩) (fun z hp1 a1 a2 a3 a4 a5 => g1 z hp1 ⟨a1, a2, a3, a4, a5⟩)) (fun z hp1 φ => Or.inl ⟨_, rfl, ?_⟩) (fun E hp1 ψ => Or.inr ?_))
  · refine ci2lE 11 ⟨u354J, _, rfl⟩ rfl (fun w hw => ?_)
    refine clastE 12 φ.1 ⟨u354J, _, rfl⟩ rfl h2 (fun hp2 hH2 F2 J2 => ?_)
    refine cgoto ⟨u354J, _, rfl⟩ ?_
    refine ccst 24 (0) ⟨u354J, _, rfl⟩ rfl (by decide) (fun z9 h9 => ?_)
    exact cret ⟨u354J, _, rfl⟩ (Or.inl rfl) (hR _ _ _ _ (lawI_83 (law_cl hI φ.1 φ.2.1) hH2 F2) (rf_83 F2 (cF_rf φ.2.1 r)) (by rw [φ.2.2.1]; exact h9) (Or.inr ⟨φ.2.2.1, cl_83 F2 φ.2.2.2.1, by rw [J2, hw]; exact φ.2.2.2.2⟩) (by decide) (by decide))
  · obtain ⟨ψ0, ψr, ψc, ψ1, ψ2⟩ := ψ
    rcases ψ2 with ⟨ce, rfl⟩ | ⟨ce, rfl⟩
    · refine ⟨1, 15, 5, 17, rfl, rfl, rfl, rfl, ?_⟩
      refine ccst 18 (1) ⟨u354J, _, rfl⟩ rfl (by decide) (fun z9 h9 => ?_)
      exact cret ⟨u354J, _, rfl⟩ (Or.inl rfl) (hR _ _ _ _ ψ0 ψr (by rw [ce]; exact h9) (Or.inl ⟨ψ1, ψc⟩) (by decide) (by decide))
    · refine ⟨0, 19, 5, 21, rfl, rfl, rfl, rfl, ?_⟩
      refine ccst 22 (2) ⟨u354J, _, rfl⟩ rfl (by decide) (fun z9 h9 => ?_)
      exact cret ⟨u354J, _, rfl⟩ (Or.inl rfl) (hR _ _ _ _ ψ0 ψr (by rw [ce]; exact h9) (Or.inl ⟨ψ1, ψc⟩) (by decide) (by decide))
end
/-! ##### q20 ##### -/
section
/-! ===== tightest on both sides ===== -/
/-- how many points fit a pair -/
def fitC (V : Nat) (T : sT) (a b : Nat) : Nat := sm (fun c => iv (c < V ∧ ¬ a = c ∧ ¬ b = c ∧ T a c = -1 ∧ T b c = -1)) 15
theorem fit_bc {V a b : Nat} {T : sT} (hV : V ≤ 15) (ha : a < V) (hb : b < V) : bcN (opN V T a &&& opN V T b) = ((fitC V T a b : Nat) : Int) := by
  rw [bc_pq (Nat.lt_of_le_of_lt Nat.and_le_left (op_lt V T a))]
  unfold fitC
  rw [pq_iv (P := fun c => c < V ∧ ¬ a = c ∧ ¬ b = c ∧ T a c = -1 ∧ T b c = -1) (fun i hi => by
    rw [Nat.testBit_and, op_test hV, op_test hV, Bool.and_eq_true, decide_eq_true_iff, decide_eq_true_iff]
    exact ⟨fun z => ⟨z.1.2.1, z.1.2.2.1, z.2.2.2.1, z.1.2.2.2, z.2.2.2.2⟩, fun z => ⟨⟨ha, z.1, z.2.1, z.2.2.2.1⟩, hb, z.1, z.2.2.1, z.2.2.2.2⟩⟩)]
theorem iv_sm_le {f : Nat → Nat} (h : ∀ i, f i ≤ 1) : ∀ n, sm f n ≤ n
  | 0 => Nat.le_refl _
  | n + 1 => by
    have h1 := iv_sm_le h n
    have h2 := h n
    show sm f n + f n ≤ n + 1
    omega
theorem fit_lt {V a b : Nat} {T : sT} (ha : a < 15) : fitC V T a b < 15 := by
  have e : fitC V T a b + sm (fun c => iv (¬ (c < V ∧ ¬ a = c ∧ ¬ b = c ∧ T a c = -1 ∧ T b c = -1))) 15 = 15 := by
    unfold fitC
    rw [← sm_add]
    have k : ∀ n, sm (fun i => iv (i < V ∧ ¬ a = i ∧ ¬ b = i ∧ T a i = -1 ∧ T b i = -1) + iv (¬ (i < V ∧ ¬ a = i ∧ ¬ b = i ∧ T a i = -1 ∧ T b i = -1))) n = n * 1 := fun n => by
      rw [← sm_const 1 n]
      refine sm_ext _ (fun i _ => ?_)
      by_cases g : i < V ∧ ¬ a = i ∧ ¬ b = i ∧ T a i = -1 ∧ T b i = -1
      · rw [iv_t g, iv_f (fun z => z g)]
      · rw [iv_f g, iv_t g]
    exact k 15
  have e2 : 1 ≤ sm (fun c => iv (¬ (c < V ∧ ¬ a = c ∧ ¬ b = c ∧ T a c = -1 ∧ T b c = -1))) 15 := by
    have s := sm_split (fun c => iv (¬ (c < V ∧ ¬ a = c ∧ ¬ b = c ∧ T a c = -1 ∧ T b c = -1))) (a + 1) (15 - (a + 1))
    rw [show a + 1 + (15 - (a + 1)) = 15 by omega] at s
    rw [s]
    have : sm (fun c => iv (¬ (c < V ∧ ¬ a = c ∧ ¬ b = c ∧ T a c = -1 ∧ T b c = -1))) (a + 1) = sm (fun c => iv (¬ (c < V ∧ ¬ a = c ∧ ¬ b = c ∧ T a c = -1 ∧ T b c = -1))) a + iv (¬ (a < V ∧ ¬ a = a ∧ ¬ b = a ∧ T a a = -1 ∧ T b a = -1)) := rfl
    rw [this, iv_t (p := ¬ (a < V ∧ ¬ a = a ∧ ¬ b = a ∧ T a a = -1 ∧ T b a = -1)) (fun z => z.2.1 rfl)]
    omega
  omega
/-- the tightest pair before a code, what fits it -/
def tgF (V : Nat) (T : sT) : Nat → Int × Int
  | 0 => (-1, 15)
  | n + 1 => if unB V T n = true ∧ ((fitC V T (n / 15) (n % 15) : Nat) : Int) < (tgF V T n).2 then (((16 * (n / 15) + n % 15 : Nat) : Int), ((fitC V T (n / 15) (n % 15) : Nat) : Int)) else tgF V T n
theorem tgF_u {V : Nat} {T : sT} (n : Nat) : tgF V T (n + 1) = if unB V T n = true ∧ ((fitC V T (n / 15) (n % 15) : Nat) : Int) < (tgF V T n).2 then (((16 * (n / 15) + n % 15 : Nat) : Int), ((fitC V T (n / 15) (n % 15) : Nat) : Int)) else tgF V T n := rfl
theorem tg_no {V : Nat} {T : sT} (n : Nat) : ∀ k, (∀ j, n ≤ j → j < n + k → ¬ unB V T j = true) → tgF V T (n + k) = tgF V T n
  | 0, _ => rfl
  | k + 1, h => by
    rw [← tg_no n k (fun j h1 h2 => h j h1 (by omega))]
    show tgF V T (n + k + 1) = _
    rw [tgF_u, if_neg (fun z => h (n + k) (by omega) (by omega) z.1)]
theorem tg_s1 {V a b : Nat} {T : sT} (hb : b < 15) (h : a < b ∧ b < V ∧ T a b = -1) (h2 : ((fitC V T a b : Nat) : Int) < (tgF V T (15 * a + b)).2) : tgF V T (15 * a + (b + 1)) = (((16 * a + b : Nat) : Int), ((fitC V T a b : Nat) : Int)) := by
  show tgF V T (15 * a + b + 1) = _
  rw [tgF_u, show (15 * a + b) / 15 = a by omega, show (15 * a + b) % 15 = b by omega, if_pos ⟨(un_in hb).mpr h, h2⟩]
theorem tg_s0 {V a b : Nat} {T : sT} (hb : b < 15) (h : ¬ ((a < b ∧ b < V ∧ T a b = -1) ∧ ((fitC V T a b : Nat) : Int) < (tgF V T (15 * a + b)).2)) : tgF V T (15 * a + (b + 1)) = tgF V T (15 * a + b) := by
  show tgF V T (15 * a + b + 1) = _
  rw [tgF_u, show (15 * a + b) / 15 = a by omega, show (15 * a + b) % 15 = b by omega, if_neg (fun z => h ⟨(un_in hb).mp z.1, z.2⟩)]
theorem tg_row {V a b : Nat} {T : sT} (hV : V ≤ 15) (hb : V = b) : tgF V T (15 * (a + 1)) = tgF V T (15 * a + b) := by
  rw [← hb, show 15 * (a + 1) = 15 * a + V + (15 - V) by omega]
  exact tg_no _ _ (fun k k1 k2 => fun z => by
    have z := of_decide_eq_true z
    omega)
theorem tg_beg {V a : Nat} {T : sT} : tgF V T (15 * a + (a + 1)) = tgF V T (15 * a) :=
  tg_no _ _ (fun k k1 k2 => fun z => by
    have z := of_decide_eq_true z
    omega)
theorem tg_end {V a : Nat} {T : sT} (hV : V ≤ 15) (ha : V = a) : tgF V T 225 = tgF V T (15 * a) := by
  rw [← ha, show 225 = 15 * V + (225 - 15 * V) by omega]
  exact tg_no _ _ (fun k k1 k2 => fun z => by
    have z := of_decide_eq_true z
    omega)
/-- nothing found, or less than 15 -/
theorem tg_st {V : Nat} {T : sT} : ∀ n, n ≤ 225 → ((tgF V T n).1 = -1 ∧ (tgF V T n).2 = 15) ∨ (0 ≤ (tgF V T n).1 ∧ (tgF V T n).1 ≤ 240 ∧ 0 ≤ (tgF V T n).2 ∧ (tgF V T n).2 < 15)
  | 0, _ => Or.inl ⟨rfl, rfl⟩
  | n + 1, h => by
    show ((if _ then _ else _ : Int × Int).1 = -1 ∧ (if _ then _ else _ : Int × Int).2 = 15) ∨ (0 ≤ (if _ then _ else _ : Int × Int).1 ∧ (if _ then _ else _ : Int × Int).1 ≤ 240 ∧ 0 ≤ (if _ then _ else _ : Int × Int).2 ∧ (if _ then _ else _ : Int × Int).2 < 15)
    by_cases g : unB V T n = true ∧ ((fitC V T (n / 15) (n % 15) : Nat) : Int) < (tgF V T n).2
    · rw [if_pos g]
      have k := fit_lt (V := V) (a := n / 15) (b := n % 15) (T := T) (by omega)
      right
      dsimp only
      omega
    · rw [if_neg g]
      exact tg_st n (by omega)
theorem u25 : bUp 0 am_m25.1 = true := by decide +kernel
theorem l25i {d a V : Nat} {T : sT} {hp : amH} {R : xQ} {wa : Int32} {o : Nat} (ho : bo o) (hH : bHk 84 bTT hp) (hB : bdOk hp o V T) (ha : wa.toInt = (a : Int)) (aV : a < V)
    (hQ : ∀ (w1 w2 wb : Int32) (v5 : Option Value), (w1.toInt = (tgF V T (15 * (a + 1))).1 ∧ w2.toInt = (tgF V T (15 * (a + 1))).2) → xV (d + 2) am_m25 82 [some (.ref o), some (.int w1), some (.int w2), some (.int wa), some (.int wb), v5] [] hp R) :
    ∀ (jj b : Nat) (w1 w2 wb : Int32) (v5 : Option Value), wb.toInt = (b : Int) → a < b → b + jj = V → (w1.toInt = (tgF V T (15 * a + b)).1 ∧ w2.toInt = (tgF V T (15 * a + b)).2) → xV (d + 2) am_m25 20 [some (.ref o), some (.int w1), some (.int w2), some (.int wa), some (.int wb), v5] [] hp R := by
  have h15 : V ≤ 15 := hB.2.1.2.1
  have b0 := hB.1
  intro jj
  induction jj with
  | zero =>
    intro b w1 w2 wb v5 hb hab hj hw
    have e := tg_row (V := V) (a := a) (b := b) (T := T) h15 (by omega)
    refine xild2 22 ⟨u25, _, rfl⟩ rfl rfl ?_
    refine xald 23 ⟨u25, _, rfl⟩ rfl rfl ?_
    refine xgetC 26 hH ⟨u25, _, rfl⟩ rfl (bo_lt ho) (by decide) (bo_T ho) rfl (by decide) (fun z23 h23 => ?_)
    refine xcmp_ge 29 ⟨u25, _, rfl⟩ rfl (fun c26 => ?_) (fun c26 => ?_)
    · exact hQ _ _ _ _ (by rw [e]; exact hw)
    · omega
  | succ jj ih =>
    intro b w1 w2 wb v5 hb hab hj hw
    have st := tg_st (V := V) (T := T) (15 * a + b) (by omega)
    have s1 := tg_s1 (V := V) (a := a) (b := b) (T := T) (by omega)
    have s0 := tg_s0 (V := V) (a := a) (b := b) (T := T) (by omega)
    have fl := fit_lt (V := V) (a := a) (b := b) (T := T) (by omega)
    refine xild2 22 ⟨u25, _, rfl⟩ rfl rfl ?_
    refine xald 23 ⟨u25, _, rfl⟩ rfl rfl ?_
    refine xgetC 26 hH ⟨u25, _, rfl⟩ rfl (bo_lt ho) (by decide) (bo_T ho) rfl (by decide) (fun z23 h23 => ?_)
    refine xcmp_ge 29 ⟨u25, _, rfl⟩ rfl (fun c26 => ?_) (fun c26 => ?_)
    · omega
    · refine xald 30 ⟨u25, _, rfl⟩ rfl rfl ?_
      refine xild 31 ⟨u25, _, rfl⟩ rfl rfl ?_
      refine xcallC 34 (o := o) [.int _] [] hH ⟨u25, _, rfl⟩ rfl rfl (bo_lt ho) (bo_T ho) (by decide) rfl ⟨rfl, rfl, rfl, rfl⟩ rfl (k_opn (x := a) ho hH hB ha (fun z31 h31 => ⟨_, rfl, ?_⟩))
      refine xald 35 ⟨u25, _, rfl⟩ rfl rfl ?_
      refine xild2 37 ⟨u25, _, rfl⟩ rfl rfl ?_
      refine xcallC 40 (o := o) [.int _] [.int _] hH ⟨u25, _, rfl⟩ rfl rfl (bo_lt ho) (bo_T ho) (by decide) rfl ⟨rfl, rfl, rfl, rfl⟩ rfl (k_opn (x := b) ho hH hB hb (fun z37 h37 => ⟨_, rfl, ?_⟩))
      refine xand 41 ⟨u25, _, rfl⟩ rfl ?_
      refine xcallS 44 [.int _] [] hH ⟨u25, _, rfl⟩ rfl rfl rfl rfl rfl (k_bc (i_and h31 h37 (op_lt V T a)).1 (fun z41 h41 => ⟨_, rfl, ?_⟩))
      rw [fit_bc h15 aV (by omega)] at h41
      refine xist2 46 ⟨u25, _, rfl⟩ rfl rfl ?_
      refine xald 47 ⟨u25, _, rfl⟩ rfl rfl ?_
      refine xild 48 ⟨u25, _, rfl⟩ rfl rfl ?_
      refine xcallC 51 (o := o) [.int _] [] hH ⟨u25, _, rfl⟩ rfl rfl (bo_lt ho) (bo_T ho) (by decide) rfl ⟨rfl, rfl, rfl, rfl⟩ rfl (k_opn (x := a) ho hH hB ha (fun z48 h48 => ⟨_, rfl, ?_⟩))
      refine xild2 53 ⟨u25, _, rfl⟩ rfl rfl ?_
      refine xcallS 56 [.int _, .int _] [] hH ⟨u25, _, rfl⟩ rfl rfl rfl rfl rfl (k_has (m := opN V T a) (n := b) h48 (op_lt V T a) hb (by omega) (fun z53 h53 => ⟨_, rfl, ?_⟩))
      rw [op_test h15] at h53
      have h53 : (z53.toInt = 1 ∧ T a b = -1) ∨ (z53.toInt = 0 ∧ ¬ T a b = -1) := by
        by_cases q : T a b = -1
        · left; rw [h53, if_pos (decide_eq_true ⟨by omega, by omega, by omega, q⟩)]; exact ⟨rfl, q⟩
        · right; rw [h53, if_neg (fun z => q (of_decide_eq_true z).2.2.2)]; exact ⟨rfl, q⟩
      refine xif_eq 59 ⟨u25, _, rfl⟩ rfl (fun c56 => ?_) (fun c56 => ?_)
      · refine xinc 79 (1) ⟨u25, _, rfl⟩ rfl rfl rfl (by decide) (by omega) (by omega) (fun z76 h76 => ?_)
        refine xgoto ⟨u25, _, rfl⟩ ?_
        have s0 := s0 (by omega)
        exact ih (b + 1) _ _ _ _ (by omega) (by omega) (by omega) (by rw [s0]; exact hw)
      · refine xild2 61 ⟨u25, _, rfl⟩ rfl rfl ?_
        refine xild 62 ⟨u25, _, rfl⟩ rfl rfl ?_
        refine xcmp_ge 65 ⟨u25, _, rfl⟩ rfl (fun c62 => ?_) (fun c62 => ?_)
        · refine xinc 79 (1) ⟨u25, _, rfl⟩ rfl rfl rfl (by decide) (by omega) (by omega) (fun z76 h76 => ?_)
          refine xgoto ⟨u25, _, rfl⟩ ?_
          have s0 := s0 (by omega)
          exact ih (b + 1) _ _ _ _ (by omega) (by omega) (by omega) (by rw [s0]; exact hw)
        · refine xbip 67 (16) ⟨u25, _, rfl⟩ rfl (by decide) (fun z65 h65 => ?_)
          refine xild 68 ⟨u25, _, rfl⟩ rfl rfl ?_
          refine xmul 69 (16 * Int32.toInt wa) ⟨u25, _, rfl⟩ rfl (by rw [h65]) (by omega) (by omega) (fun z68 h68 => ?_)
          refine xild2 71 ⟨u25, _, rfl⟩ rfl rfl ?_
          refine xadd 72 _ ⟨u25, _, rfl⟩ rfl rfl (by omega) (by omega) (fun z71 h71 => ?_)
          refine xist 73 ⟨u25, _, rfl⟩ rfl rfl ?_
          refine xild2 75 ⟨u25, _, rfl⟩ rfl rfl ?_
          refine xist 76 ⟨u25, _, rfl⟩ rfl rfl ?_
          refine xinc 79 (1) ⟨u25, _, rfl⟩ rfl rfl rfl (by decide) (by omega) (by omega) (fun z76 h76 => ?_)
          refine xgoto ⟨u25, _, rfl⟩ ?_
          have s1 := s1 (by omega) (by omega)
          exact ih (b + 1) _ _ _ _ (by omega) (by omega) (by omega) (by rw [s1]; exact ⟨by show _ = ((16 * a + b : Nat) : Int); omega, by show _ = ((fitC V T a b : Nat) : Int); omega⟩)
theorem l25o {d V : Nat} {T : sT} {hp : amH} {R : xQ} {o : Nat} (ho : bo o) (hH : bHk 84 bTT hp) (hB : bdOk hp o V T)
    (hR : ∀ z : Int32, z.toInt = (tgF V T 225).1 → R (.inl (some (.int z))) hp) :
    ∀ (jj a : Nat) (w1 w2 wa : Int32) (v4 v5 : Option Value), wa.toInt = (a : Int) → a + jj = V → (w1.toInt = (tgF V T (15 * a)).1 ∧ w2.toInt = (tgF V T (15 * a)).2) → xV (d + 2) am_m25 7 [some (.ref o), some (.int w1), some (.int w2), some (.int wa), v4, v5] [] hp R := by
  have h15 : V ≤ 15 := hB.2.1.2.1
  have b0 := hB.1
  intro jj
  induction jj with
  | zero =>
    intro a w1 w2 wa v4 v5 ha hj hw
    have e := tg_end (V := V) (a := a) (T := T) h15 (by omega)
    refine xild 8 ⟨u25, _, rfl⟩ rfl rfl ?_
    refine xald 9 ⟨u25, _, rfl⟩ rfl rfl ?_
    refine xgetC 12 hH ⟨u25, _, rfl⟩ rfl (bo_lt ho) (by decide) (bo_T ho) rfl (by decide) (fun z9 h9 => ?_)
    refine xcmp_ge 15 ⟨u25, _, rfl⟩ rfl (fun c12 => ?_) (fun c12 => ?_)
    · refine xild 89 ⟨u25, _, rfl⟩ rfl rfl ?_
      exact xret ⟨u25, _, rfl⟩ rfl (hR _ (by rw [e]; exact hw.1))
    · omega
  | succ jj ih =>
    intro a w1 w2 wa v4 v5 ha hj hw
    have eb := tg_beg (V := V) (a := a) (T := T)
    refine xild 8 ⟨u25, _, rfl⟩ rfl rfl ?_
    refine xald 9 ⟨u25, _, rfl⟩ rfl rfl ?_
    refine xgetC 12 hH ⟨u25, _, rfl⟩ rfl (bo_lt ho) (by decide) (bo_T ho) rfl (by decide) (fun z9 h9 => ?_)
    refine xcmp_ge 15 ⟨u25, _, rfl⟩ rfl (fun c12 => ?_) (fun c12 => ?_)
    · omega
    · refine xild 16 ⟨u25, _, rfl⟩ rfl rfl ?_
      refine xcst 17 (1) ⟨u25, _, rfl⟩ rfl (by decide) (fun z16 h16 => ?_)
      refine xadd 18 _ ⟨u25, _, rfl⟩ rfl rfl (by omega) (by omega) (fun z17 h17 => ?_)
      refine xist2 20 ⟨u25, _, rfl⟩ rfl rfl ?_
      refine l25i ho hH hB ha (by omega) (fun x1 x2 xb x5 r1 => ?_) (V - (a + 1)) (a + 1) _ _ _ _ (by omega) (by omega) (by omega) (by rw [eb]; exact hw)
      refine xinc 85 (1) ⟨u25, _, rfl⟩ rfl rfl rfl (by decide) (by omega) (by omega) (fun z82 h82 => ?_)
      refine xgoto ⟨u25, _, rfl⟩ ?_
      exact ih (a + 1) _ _ _ _ _ (by omega) (by omega) r1
theorem k_25E {d o V : Nat} {T : sT} {hp : amH} {R : xQ} (ho : bo o) (hH : bHk 84 bTT hp) (hB : bdOk hp o V T)
    (hR : ∀ z : Int32, z.toInt = (tgF V T 225).1 → R (.inl (some (.int z))) hp) : xK (d + 2) 25 [.ref o] hp R := by
  refine xin (M := am_m25) rfl rfl (by unfold xAv; simp [amOk, bo_lt ho, Value.category]) ?_
  refine xcst 1 (-1) ⟨u25, _, rfl⟩ rfl (by decide) (fun z0 h0 => ?_)
  refine xist 2 ⟨u25, _, rfl⟩ rfl rfl ?_
  refine xbip 4 (15) ⟨u25, _, rfl⟩ rfl (by decide) (fun z2 h2 => ?_)
  refine xist 5 ⟨u25, _, rfl⟩ rfl rfl ?_
  refine xcst 6 (0) ⟨u25, _, rfl⟩ rfl (by decide) (fun z5 h5 => ?_)
  refine xist 7 ⟨u25, _, rfl⟩ rfl rfl ?_
  refine xpad 2 ?_
  exact l25o ho hH hB hR V 0 _ _ _ _ _ h5 (by omega) ⟨h0, h2⟩
theorem u131 : bUp 0 am_m131.1 = true := by decide +kernel
theorem k_131E {d V n : Nat} {h : Nat → sR} {sv : Option sR} {T : sT} {ty : Nat → Int} {hp : amH} {R : xQ} (hH : bHk 84 bTT hp) (hS : clS hp (V, T, ty) n h sv)
    (hR : ∀ (z : Int32) hp1, bHk 84 bTT hp1 → cF hp hp1 → clS hp1 (V, T, ty) n h sv → z.toInt = (tgF V T 225).1 → R (.inl (some (.int z))) hp1) : xK (d + 4) 131 [.ref 0] hp R := by
  have hB : bdOk hp 3 V T := hS.1
  have b0 : rN hp 3 0 = (V : Int) := hB.1
  have hL : lsN hp 3 T 225 := hS.2.1
  have b1 : rN hp 3 1 = (((trL T 225).length : Nat) : Int) := hL.1
  have hT0 : sOk V T := hB.2.1
  have h15 : V ≤ 15 := hT0.2.1
  have l35 : (trL T 225).length ≤ 35 := trL_35 hT0 225
  have nq0 : rN hp 49 0 = ((nQ T : Nat) : Int) := hS.2.2.1.1
  refine xin (M := am_m131) rfl rfl rfl ?_
  refine xald 1 ⟨u131, _, rfl⟩ rfl rfl ?_
  refine xgetD 4 (3) hH ⟨u131, _, rfl⟩ rfl (by decide) (by decide) rfl rfl (by decide) ?_
  refine xcallC 7 (o := 3) [] [] hH ⟨u131, _, rfl⟩ rfl rfl (by decide) rfl (by decide) rfl ⟨rfl, rfl, rfl, rfl⟩ rfl (k_25E (o := 3) (Or.inl rfl) hH hB (fun z4 h4 => ⟨_, rfl, ?_⟩))
  exact xret ⟨u131, _, rfl⟩ rfl (hR _ _ hH cF.refl hS h4)
theorem l282E {d V a b : Nat} {T : sT} {hp : amH} {R : xQ} {wa wb : Int32} (hH : bHk 84 bTT hp) (hB : rdOk hp V T) (ha : wa.toInt = (a : Int)) (hb : wb.toInt = (b : Int)) (aV : a < V) (bV : b < V) (hab : ¬ a = b) (hop : T a b = -1)
    (hR : ∀ z : Int32, z.toInt = ((fitC V T a b : Nat) : Int) → R (.inl (some (.int z))) hp) :
    ∀ (jj c : Nat) (w wc : Int32), wc.toInt = (c : Int) → c + jj = V → w.toInt = ((sm (fun c => iv (c < V ∧ ¬ a = c ∧ ¬ b = c ∧ T a c = -1 ∧ T b c = -1)) c : Nat) : Int) → xV (d + 4) am_m282 5 [some (.ref 66), some (.int wa), some (.int wb), some (.int w), some (.int wc)] [] hp R := by
  have h15 : V ≤ 15 := hB.2.1.2.1
  have b0 : rN hp 67 0 = (V : Int) := hB.1
  intro jj
  induction jj with
  | zero =>
    intro c w wc hc hj hw
    have e : fitC V T a b = sm (fun c => iv (c < V ∧ ¬ a = c ∧ ¬ b = c ∧ T a c = -1 ∧ T b c = -1)) V := sm_tail h15 (fun i h1 _ => iv_f (fun z => by omega))
    have ec : c = V := by omega
    rw [ec] at hw
    refine xild2 7 ⟨u282, _, rfl⟩ rfl rfl ?_
    refine xald 8 ⟨u282, _, rfl⟩ rfl rfl ?_
    refine xcall 11 [.ref 66] [.int _] hH ⟨u282, _, rfl⟩ rfl rfl rfl rfl rfl (k_points hH (fun z8 h8 => ⟨_, rfl, ?_⟩))
    refine xcmp_ge 14 ⟨u282, _, rfl⟩ rfl (fun c11 => ?_) (fun c11 => ?_)
    · refine xild 52 ⟨u282, _, rfl⟩ rfl rfl ?_
      exact xret ⟨u282, _, rfl⟩ rfl (hR _ (by rw [e]; exact hw))
    · omega
  | succ jj ih =>
    intro c w wc hc hj hw
    have k2 := iv_sm_le (f := fun c => iv (c < V ∧ ¬ a = c ∧ ¬ b = c ∧ T a c = -1 ∧ T b c = -1)) (fun i => iv_le) c
    refine xild2 7 ⟨u282, _, rfl⟩ rfl rfl ?_
    refine xald 8 ⟨u282, _, rfl⟩ rfl rfl ?_
    refine xcall 11 [.ref 66] [.int _] hH ⟨u282, _, rfl⟩ rfl rfl rfl rfl rfl (k_points hH (fun z8 h8 => ⟨_, rfl, ?_⟩))
    refine xcmp_ge 14 ⟨u282, _, rfl⟩ rfl (fun c11 => ?_) (fun c11 => ?_)
    · omega
    · refine xild 15 ⟨u282, _, rfl⟩ rfl rfl ?_
      refine xild2 17 ⟨u282, _, rfl⟩ rfl rfl ?_
      refine xild 18 ⟨u282, _, rfl⟩ rfl rfl ?_
      refine xcmp_eq 21 ⟨u282, _, rfl⟩ rfl (fun c18 => ?_) (fun c18 => ?_)
      · refine xcst 43 (0) ⟨u282, _, rfl⟩ rfl (by decide) (fun z42 h42 => ?_)
        refine xadd 44 _ ⟨u282, _, rfl⟩ rfl rfl (by omega) (by omega) (fun z43 h43 => ?_)
        refine xist 45 ⟨u282, _, rfl⟩ rfl rfl ?_
        refine xinc 48 (1) ⟨u282, _, rfl⟩ rfl rfl rfl (by decide) (by omega) (by omega) (fun z45 h45 => ?_)
        refine xgoto ⟨u282, _, rfl⟩ ?_
        exact ih (c + 1) _ _ (by omega) (by omega) (by show _ = ((sm (fun c => iv (c < V ∧ ¬ a = c ∧ ¬ b = c ∧ T a c = -1 ∧ T b c = -1)) c + iv (c < V ∧ ¬ a = c ∧ ¬ b = c ∧ T a c = -1 ∧ T b c = -1) : Nat) : Int); rw [iv_f (p := c < V ∧ ¬ a = c ∧ ¬ b = c ∧ T a c = -1 ∧ T b c = -1) (by omega)]; omega)
      · refine xild2 23 ⟨u282, _, rfl⟩ rfl rfl ?_
        refine xild 24 ⟨u282, _, rfl⟩ rfl rfl ?_
        refine xcmp_eq 27 ⟨u282, _, rfl⟩ rfl (fun c24 => ?_) (fun c24 => ?_)
        · refine xcst 43 (0) ⟨u282, _, rfl⟩ rfl (by decide) (fun z42 h42 => ?_)
          refine xadd 44 _ ⟨u282, _, rfl⟩ rfl rfl (by omega) (by omega) (fun z43 h43 => ?_)
          refine xist 45 ⟨u282, _, rfl⟩ rfl rfl ?_
          refine xinc 48 (1) ⟨u282, _, rfl⟩ rfl rfl rfl (by decide) (by omega) (by omega) (fun z45 h45 => ?_)
          refine xgoto ⟨u282, _, rfl⟩ ?_
          exact ih (c + 1) _ _ (by omega) (by omega) (by show _ = ((sm (fun c => iv (c < V ∧ ¬ a = c ∧ ¬ b = c ∧ T a c = -1 ∧ T b c = -1)) c + iv (c < V ∧ ¬ a = c ∧ ¬ b = c ∧ T a c = -1 ∧ T b c = -1) : Nat) : Int); rw [iv_f (p := c < V ∧ ¬ a = c ∧ ¬ b = c ∧ T a c = -1 ∧ T b c = -1) (by omega)]; omega)
        · refine xald 28 ⟨u282, _, rfl⟩ rfl rfl ?_
          refine xild 29 ⟨u282, _, rfl⟩ rfl rfl ?_
          refine xild 30 ⟨u282, _, rfl⟩ rfl rfl ?_
          refine xild2 32 ⟨u282, _, rfl⟩ rfl rfl ?_
          refine xcall 35 [.ref 66, .int _, .int _, .int _] [.int _] hH ⟨u282, _, rfl⟩ rfl rfl rfl rfl rfl (k_rfree hH hB (x := a) (y := b) (z := c) ha hb hc (by omega) (by omega) (by omega) (fun z32 h32 => ⟨_, rfl, ?_⟩))
          refine xif_eq 38 ⟨u282, _, rfl⟩ rfl (fun c35 => ?_) (fun c35 => ?_)
          · refine xcst 43 (0) ⟨u282, _, rfl⟩ rfl (by decide) (fun z42 h42 => ?_)
            refine xadd 44 _ ⟨u282, _, rfl⟩ rfl rfl (by omega) (by omega) (fun z43 h43 => ?_)
            refine xist 45 ⟨u282, _, rfl⟩ rfl rfl ?_
            refine xinc 48 (1) ⟨u282, _, rfl⟩ rfl rfl rfl (by decide) (by omega) (by omega) (fun z45 h45 => ?_)
            refine xgoto ⟨u282, _, rfl⟩ ?_
            exact ih (c + 1) _ _ (by omega) (by omega) (by show _ = ((sm (fun c => iv (c < V ∧ ¬ a = c ∧ ¬ b = c ∧ T a c = -1 ∧ T b c = -1)) c + iv (c < V ∧ ¬ a = c ∧ ¬ b = c ∧ T a c = -1 ∧ T b c = -1) : Nat) : Int); rw [iv_f (p := c < V ∧ ¬ a = c ∧ ¬ b = c ∧ T a c = -1 ∧ T b c = -1) (by unfold sFree at h32; omega)]; omega)
          · refine xcst 39 (1) ⟨u282, _, rfl⟩ rfl (by decide) (fun z38 h38 => ?_)
            refine xgoto ⟨u282, _, rfl⟩ ?_
            refine xadd 44 _ ⟨u282, _, rfl⟩ rfl rfl (by omega) (by omega) (fun z43 h43 => ?_)
            refine xist 45 ⟨u282, _, rfl⟩ rfl rfl ?_
            refine xinc 48 (1) ⟨u282, _, rfl⟩ rfl rfl rfl (by decide) (by omega) (by omega) (fun z45 h45 => ?_)
            refine xgoto ⟨u282, _, rfl⟩ ?_
            exact ih (c + 1) _ _ (by omega) (by omega) (by show _ = ((sm (fun c => iv (c < V ∧ ¬ a = c ∧ ¬ b = c ∧ T a c = -1 ∧ T b c = -1)) c + iv (c < V ∧ ¬ a = c ∧ ¬ b = c ∧ T a c = -1 ∧ T b c = -1) : Nat) : Int); rw [iv_t (p := c < V ∧ ¬ a = c ∧ ¬ b = c ∧ T a c = -1 ∧ T b c = -1) (by unfold sFree at h32; omega)]; omega)
theorem k_282E {d V a b : Nat} {T : sT} {hp : amH} {R : xQ} {wa wb : Int32} (hH : bHk 84 bTT hp) (hB : rdOk hp V T) (ha : wa.toInt = (a : Int)) (hb : wb.toInt = (b : Int)) (aV : a < V) (bV : b < V) (hab : ¬ a = b) (hop : T a b = -1)
    (hR : ∀ z : Int32, z.toInt = ((fitC V T a b : Nat) : Int) → R (.inl (some (.int z))) hp) : xK (d + 4) 282 [.ref 66, .int wa, .int wb] hp R := by
  refine xin (M := am_m282) rfl rfl rfl ?_
  refine xcst 1 (0) ⟨u282, _, rfl⟩ rfl (by decide) (fun z0 h0 => ?_)
  refine xist 2 ⟨u282, _, rfl⟩ rfl rfl ?_
  refine xcst 3 (0) ⟨u282, _, rfl⟩ rfl (by decide) (fun z2 h2 => ?_)
  refine xist2 5 ⟨u282, _, rfl⟩ rfl rfl ?_
  exact l282E hH hB ha hb aV bV hab hop hR V 0 _ _ h2 (by omega) h0
theorem l283i {d a V : Nat} {T : sT} {hp : amH} {R : xQ} {wa : Int32} (hH : bHk 84 bTT hp) (hB : rdOk hp V T) (ha : wa.toInt = (a : Int)) (aV : a < V)
    (hQ : ∀ (w1 w2 wb : Int32) (v5 : Option Value), ((w1.toInt = -1 ∧ (tgF V T (15 * (a + 1))).1 = -1) ∨ (0 ≤ w1.toInt ∧ w1.toInt = (tgF V T (15 * (a + 1))).1 ∧ w2.toInt = (tgF V T (15 * (a + 1))).2)) → xV (d + 5) am_m283 82 [some (.ref 66), some (.int w1), some (.int w2), some (.int wa), some (.int wb), v5] [] hp R) :
    ∀ (jj b : Nat) (w1 w2 wb : Int32) (v5 : Option Value), wb.toInt = (b : Int) → a < b → b + jj = V → ((w1.toInt = -1 ∧ (tgF V T (15 * a + b)).1 = -1) ∨ (0 ≤ w1.toInt ∧ w1.toInt = (tgF V T (15 * a + b)).1 ∧ w2.toInt = (tgF V T (15 * a + b)).2)) → xV (d + 5) am_m283 19 [some (.ref 66), some (.int w1), some (.int w2), some (.int wa), some (.int wb), v5] [] hp R := by
  have h15 : V ≤ 15 := hB.2.1.2.1
  have b0 : rN hp 67 0 = (V : Int) := hB.1
  intro jj
  induction jj with
  | zero =>
    intro b w1 w2 wb v5 hb hab hj hw
    have e := tg_row (V := V) (a := a) (b := b) (T := T) h15 (by omega)
    refine xild2 21 ⟨u283, _, rfl⟩ rfl rfl ?_
    refine xald 22 ⟨u283, _, rfl⟩ rfl rfl ?_
    refine xcall 25 [.ref 66] [.int _] hH ⟨u283, _, rfl⟩ rfl rfl rfl rfl rfl (k_points hH (fun z22 h22 => ⟨_, rfl, ?_⟩))
    refine xcmp_ge 28 ⟨u283, _, rfl⟩ rfl (fun c25 => ?_) (fun c25 => ?_)
    · exact hQ _ _ _ _ (by rw [e]; exact hw)
    · omega
  | succ jj ih =>
    intro b w1 w2 wb v5 hb hab hj hw
    have st := tg_st (V := V) (T := T) (15 * a + b) (by omega)
    have s1 := tg_s1 (V := V) (a := a) (b := b) (T := T) (by omega)
    have s0 := tg_s0 (V := V) (a := a) (b := b) (T := T) (by omega)
    have fl := fit_lt (V := V) (a := a) (b := b) (T := T) (by omega)
    refine xild2 21 ⟨u283, _, rfl⟩ rfl rfl ?_
    refine xald 22 ⟨u283, _, rfl⟩ rfl rfl ?_
    refine xcall 25 [.ref 66] [.int _] hH ⟨u283, _, rfl⟩ rfl rfl rfl rfl rfl (k_points hH (fun z22 h22 => ⟨_, rfl, ?_⟩))
    refine xcmp_ge 28 ⟨u283, _, rfl⟩ rfl (fun c25 => ?_) (fun c25 => ?_)
    · omega
    · refine xald 29 ⟨u283, _, rfl⟩ rfl rfl ?_
      refine xild 30 ⟨u283, _, rfl⟩ rfl rfl ?_
      refine xild2 32 ⟨u283, _, rfl⟩ rfl rfl ?_
      refine xcall 35 [.ref 66, .int _, .int _] [] hH ⟨u283, _, rfl⟩ rfl rfl rfl rfl rfl (k_third hH (by omega) (by omega) (by omega) (by omega) (fun z32 h32 => ⟨_, rfl, ?_⟩))
      have h32 : z32.toInt = T a b := by rw [h32, hB.2.2.1 _ _ (by omega) (by omega), show wa.toInt.toNat = a by omega, show wb.toInt.toNat = b by omega]
      refine xcst 36 (-1) ⟨u283, _, rfl⟩ rfl (by decide) (fun z35 h35 => ?_)
      refine xcmp_eq 39 ⟨u283, _, rfl⟩ rfl (fun c36 => ?_) (fun c36 => ?_)
      · refine xald 43 ⟨u283, _, rfl⟩ rfl rfl ?_
        refine xild 44 ⟨u283, _, rfl⟩ rfl rfl ?_
        refine xild2 46 ⟨u283, _, rfl⟩ rfl rfl ?_
        refine xcall 49 [.ref 66, .int _, .int _] [] hH ⟨u283, _, rfl⟩ rfl rfl rfl rfl rfl (k_282E hH hB ha hb aV (by omega) (by omega) (by omega) (fun z46 h46 => ⟨_, rfl, ?_⟩))
        refine xist2 51 ⟨u283, _, rfl⟩ rfl rfl ?_
        refine xild 52 ⟨u283, _, rfl⟩ rfl rfl ?_
        refine xcst 53 (-1) ⟨u283, _, rfl⟩ rfl (by decide) (fun z52 h52 => ?_)
        refine xcmp_eq 56 ⟨u283, _, rfl⟩ rfl (fun c53 => ?_) (fun c53 => ?_)
        · refine xbip 67 (16) ⟨u283, _, rfl⟩ rfl (by decide) (fun z65 h65 => ?_)
          refine xild 68 ⟨u283, _, rfl⟩ rfl rfl ?_
          refine xmul 69 (16 * Int32.toInt wa) ⟨u283, _, rfl⟩ rfl (by rw [h65]) (by omega) (by omega) (fun z68 h68 => ?_)
          refine xild2 71 ⟨u283, _, rfl⟩ rfl rfl ?_
          refine xadd 72 _ ⟨u283, _, rfl⟩ rfl rfl (by omega) (by omega) (fun z71 h71 => ?_)
          refine xist 73 ⟨u283, _, rfl⟩ rfl rfl ?_
          refine xild2 75 ⟨u283, _, rfl⟩ rfl rfl ?_
          refine xist 76 ⟨u283, _, rfl⟩ rfl rfl ?_
          refine xinc 79 (1) ⟨u283, _, rfl⟩ rfl rfl rfl (by decide) (by omega) (by omega) (fun z76 h76 => ?_)
          refine xgoto ⟨u283, _, rfl⟩ ?_
          have s1 := s1 (by omega) (by omega)
          exact ih (b + 1) _ _ _ _ (by omega) (by omega) (by omega) (by rw [s1]; exact Or.inr ⟨by omega, by show _ = ((16 * a + b : Nat) : Int); omega, by show _ = ((fitC V T a b : Nat) : Int); omega⟩)
        · refine xild2 58 ⟨u283, _, rfl⟩ rfl rfl ?_
          refine xild 59 ⟨u283, _, rfl⟩ rfl rfl ?_
          refine xcmp_lt 62 ⟨u283, _, rfl⟩ rfl (fun c59 => ?_) (fun c59 => ?_)
          · refine xbip 67 (16) ⟨u283, _, rfl⟩ rfl (by decide) (fun z65 h65 => ?_)
            refine xild 68 ⟨u283, _, rfl⟩ rfl rfl ?_
            refine xmul 69 (16 * Int32.toInt wa) ⟨u283, _, rfl⟩ rfl (by rw [h65]) (by omega) (by omega) (fun z68 h68 => ?_)
            refine xild2 71 ⟨u283, _, rfl⟩ rfl rfl ?_
            refine xadd 72 _ ⟨u283, _, rfl⟩ rfl rfl (by omega) (by omega) (fun z71 h71 => ?_)
            refine xist 73 ⟨u283, _, rfl⟩ rfl rfl ?_
            refine xild2 75 ⟨u283, _, rfl⟩ rfl rfl ?_
            refine xist 76 ⟨u283, _, rfl⟩ rfl rfl ?_
            refine xinc 79 (1) ⟨u283, _, rfl⟩ rfl rfl rfl (by decide) (by omega) (by omega) (fun z76 h76 => ?_)
            refine xgoto ⟨u283, _, rfl⟩ ?_
            have s1 := s1 (by omega) (by omega)
            exact ih (b + 1) _ _ _ _ (by omega) (by omega) (by omega) (by rw [s1]; exact Or.inr ⟨by omega, by show _ = ((16 * a + b : Nat) : Int); omega, by show _ = ((fitC V T a b : Nat) : Int); omega⟩)
          · refine xgoto ⟨u283, _, rfl⟩ ?_
            refine xinc 79 (1) ⟨u283, _, rfl⟩ rfl rfl rfl (by decide) (by omega) (by omega) (fun z76 h76 => ?_)
            refine xgoto ⟨u283, _, rfl⟩ ?_
            have s0 := s0 (by omega)
            exact ih (b + 1) _ _ _ _ (by omega) (by omega) (by omega) (by rw [s0]; exact hw)
      · refine xgoto ⟨u283, _, rfl⟩ ?_
        refine xinc 79 (1) ⟨u283, _, rfl⟩ rfl rfl rfl (by decide) (by omega) (by omega) (fun z76 h76 => ?_)
        refine xgoto ⟨u283, _, rfl⟩ ?_
        have s0 := s0 (by omega)
        exact ih (b + 1) _ _ _ _ (by omega) (by omega) (by omega) (by rw [s0]; exact hw)
theorem l283o {d V : Nat} {T : sT} {hp : amH} {R : xQ} (hH : bHk 84 bTT hp) (hB : rdOk hp V T)
    (hR : ∀ z : Int32, z.toInt = (tgF V T 225).1 → R (.inl (some (.int z))) hp) :
    ∀ (jj a : Nat) (w1 w2 wa : Int32) (v4 v5 : Option Value), wa.toInt = (a : Int) → a + jj = V → ((w1.toInt = -1 ∧ (tgF V T (15 * a)).1 = -1) ∨ (0 ≤ w1.toInt ∧ w1.toInt = (tgF V T (15 * a)).1 ∧ w2.toInt = (tgF V T (15 * a)).2)) → xV (d + 5) am_m283 6 [some (.ref 66), some (.int w1), some (.int w2), some (.int wa), v4, v5] [] hp R := by
  have h15 : V ≤ 15 := hB.2.1.2.1
  have b0 : rN hp 67 0 = (V : Int) := hB.1
  intro jj
  induction jj with
  | zero =>
    intro a w1 w2 wa v4 v5 ha hj hw
    have e := tg_end (V := V) (a := a) (T := T) h15 (by omega)
    refine xild 7 ⟨u283, _, rfl⟩ rfl rfl ?_
    refine xald 8 ⟨u283, _, rfl⟩ rfl rfl ?_
    refine xcall 11 [.ref 66] [.int _] hH ⟨u283, _, rfl⟩ rfl rfl rfl rfl rfl (k_points hH (fun z8 h8 => ⟨_, rfl, ?_⟩))
    refine xcmp_ge 14 ⟨u283, _, rfl⟩ rfl (fun c11 => ?_) (fun c11 => ?_)
    · refine xild 89 ⟨u283, _, rfl⟩ rfl rfl ?_
      exact xret ⟨u283, _, rfl⟩ rfl (hR _ (by rw [e]; omega))
    · omega
  | succ jj ih =>
    intro a w1 w2 wa v4 v5 ha hj hw
    have eb := tg_beg (V := V) (a := a) (T := T)
    refine xild 7 ⟨u283, _, rfl⟩ rfl rfl ?_
    refine xald 8 ⟨u283, _, rfl⟩ rfl rfl ?_
    refine xcall 11 [.ref 66] [.int _] hH ⟨u283, _, rfl⟩ rfl rfl rfl rfl rfl (k_points hH (fun z8 h8 => ⟨_, rfl, ?_⟩))
    refine xcmp_ge 14 ⟨u283, _, rfl⟩ rfl (fun c11 => ?_) (fun c11 => ?_)
    · omega
    · refine xild 15 ⟨u283, _, rfl⟩ rfl rfl ?_
      refine xcst 16 (1) ⟨u283, _, rfl⟩ rfl (by decide) (fun z15 h15 => ?_)
      refine xadd 17 _ ⟨u283, _, rfl⟩ rfl rfl (by omega) (by omega) (fun z16 h16 => ?_)
      refine xist2 19 ⟨u283, _, rfl⟩ rfl rfl ?_
      refine l283i hH hB ha (by omega) (fun x1 x2 xb x5 r1 => ?_) (V - (a + 1)) (a + 1) _ _ _ _ (by omega) (by omega) (by omega) (by rw [eb]; exact hw)
      refine xinc 85 (1) ⟨u283, _, rfl⟩ rfl rfl rfl (by decide) (by omega) (by omega) (fun z82 h82 => ?_)
      refine xgoto ⟨u283, _, rfl⟩ ?_
      exact ih (a + 1) _ _ _ _ _ (by omega) (by omega) r1
theorem k_283E {d V : Nat} {T : sT} {hp : amH} {R : xQ} (hH : bHk 84 bTT hp) (hB : rdOk hp V T)
    (hR : ∀ z : Int32, z.toInt = (tgF V T 225).1 → R (.inl (some (.int z))) hp) : xK (d + 5) 283 [.ref 66] hp R := by
  refine xin (M := am_m283) rfl rfl rfl ?_
  refine xcst 1 (-1) ⟨u283, _, rfl⟩ rfl (by decide) (fun z0 h0 => ?_)
  refine xist 2 ⟨u283, _, rfl⟩ rfl rfl ?_
  refine xcst 3 (0) ⟨u283, _, rfl⟩ rfl (by decide) (fun z2 h2 => ?_)
  refine xist 4 ⟨u283, _, rfl⟩ rfl rfl ?_
  refine xcst 5 (0) ⟨u283, _, rfl⟩ rfl (by decide) (fun z4 h4 => ?_)
  refine xist 6 ⟨u283, _, rfl⟩ rfl rfl ?_
  refine xpad 2 ?_
  exact l283o hH hB hR V 0 _ _ _ _ _ h4 (by omega) (Or.inl ⟨h0, rfl⟩)
theorem u286 : bUp 0 am_m286.1 = true := by decide +kernel
theorem k_286E {d V n : Nat} {h : Nat → sR} {sv : Option sR} {T : sT} {ty : Nat → Int} {hp : amH} {R : xQ} (hH : bHk 84 bTT hp) (hP : P0 hp) (hS : rfS hp (V, T, ty) n h sv)
    (hR : ∀ (z : Int32) hp1, bHk 84 bTT hp1 → P0 hp1 → bFr wM hp hp1 → rfS hp1 (V, T, ty) n h sv → z.toInt = (tgF V T 225).1 → R (.inl (some (.int z))) hp1) : xK (d + 6) 286 [.ref 66] hp R := by
  have hB : rdOk hp V T := rowOk_rd hS.1
  have b0 : rN hp 67 0 = (V : Int) := hB.1
  have hT0 : sOk V T := hB.2.1
  have h15 : V ≤ 15 := hT0.2.1
  have l35 : (trL T 225).length ≤ 35 := trL_35 hT0 225
  refine xin (M := am_m286) rfl rfl rfl ?_
  refine xald 1 ⟨u286, _, rfl⟩ rfl rfl ?_
  refine xcst 2 (0) ⟨u286, _, rfl⟩ rfl (by decide) (fun z1 h1 => ?_)
  refine xputI 5 hH ⟨u286, _, rfl⟩ rfl rfl ⟨rfl, rfl⟩ (by omega) (by omega) (fun hp2 hH2 U2 => ?_)
  have s2 := U2.1
  have S2 := rfS_W (W := [(66, 7)]) hS (rU_fr U2 rfl) (fun _ => rfl) rfl rfl (fun _ => rfl) (fun _ => rfl)
  have P2 := P0_W (W := [(66, 7)]) (by decide) (rU_fr U2 rfl) hP
  refine xald 6 ⟨u286, _, rfl⟩ rfl rfl ?_
  refine xcall 9 [.ref 66] [] hH2 ⟨u286, _, rfl⟩ rfl rfl rfl rfl rfl (k_283E hH2 (show rdOk hp2 V T from rowOk_rd S2.1) (fun z6 h6 => ⟨_, rfl, ?_⟩))
  exact xret ⟨u286, _, rfl⟩ rfl (hR _ _ hH2 P2 (rU_fr U2 (by decide)) S2 h6)
end
/-! ##### q19 ##### -/
section
/-! ===== completions on both sides ===== -/
theorem xaddE {M : amM} {pc a b d : Nat} {L : List (Option Value)} {st : List Value} {hp : amH} {Q : xQ} (q : Nat) {x y : Int32} (h : xI M pc .iadd a b) (e : q = pc + 1) (hw : ∀ z : Int32, z = x + y → xV d M q L (.int z :: st) hp Q) : xV d M pc L (.int y :: .int x :: st) hp Q := by
  refine xstep h (fun cl hl => ⟨cl, ?_, hl⟩) (hw (x + y) rfl)
  subst e
  simp [amDo, amStep, amII]
/-- what the thirds of a pair bring, before c -/
def cmL (V : Nat) (T : sT) (a b : Nat) (g : Nat → Int32) : Nat → Int32
  | 0 => 0
  | c + 1 => if c < V ∧ ¬ a = c ∧ ¬ b = c ∧ T a c = -1 ∧ T b c = -1 then cmL V T a b g c + g c else cmL V T a b g c
theorem cmL_1 {V a b c : Nat} {T : sT} {g : Nat → Int32} (h : c < V ∧ ¬ a = c ∧ ¬ b = c ∧ T a c = -1 ∧ T b c = -1) : cmL V T a b g (c + 1) = cmL V T a b g c + g c := if_pos h
theorem cmL_0 {V a b c : Nat} {T : sT} {g : Nat → Int32} (h : ¬ (c < V ∧ ¬ a = c ∧ ¬ b = c ∧ T a c = -1 ∧ T b c = -1)) : cmL V T a b g (c + 1) = cmL V T a b g c := if_neg h
theorem cmL_up {V a b : Nat} {T : sT} {g : Nat → Int32} : ∀ k, cmL V T a b g (V + k) = cmL V T a b g V
  | 0 => rfl
  | k + 1 => by
    rw [← cmL_up k]
    exact cmL_0 (fun z => by omega)
theorem cmL_end {V a b : Nat} {T : sT} {g : Nat → Int32} (hV : V ≤ 15) : cmL V T a b g 15 = cmL V T a b g V := by
  have := cmL_up (V := V) (a := a) (b := b) (T := T) (g := g) (15 - V)
  rwa [show V + (15 - V) = 15 by omega] at this
/-- how many ways there are, of f triples at most, counted as the machine counts -/
def cmF (V : Nat) : Nat → sT → Int32
  | 0, _ => 1
  | f + 1, T => if (tgF V T 225).1 = -1 then 1 else cmL V T ((tgF V T 225).1.toNat / 16) ((tgF V T 225).1.toNat % 16) (fun c => cmF V f (sPut T ((tgF V T 225).1.toNat / 16) ((tgF V T 225).1.toNat % 16) c)) 15
def cmV (V : Nat) (T : sT) : Int32 := if 30 < opC V T then -2 else cmF V 10 T
theorem cmF_n {V : Nat} {T : sT} (h : (tgF V T 225).1 = -1) : ∀ f, cmF V f T = 1
  | 0 => rfl
  | f + 1 => if_pos h
theorem cmF_s {V a b f : Nat} {T : sT} (h : (tgF V T 225).1 = ((16 * a + b : Nat) : Int)) (hb : b < 15) : cmF V (f + 1) T = cmL V T a b (fun c => cmF V f (sPut T a b c)) 15 := by
  have e1 : (tgF V T 225).1.toNat / 16 = a := by rw [h, Int.toNat_natCast]; omega
  have e2 : (tgF V T 225).1.toNat % 16 = b := by rw [h, Int.toNat_natCast]; omega
  have e : cmF V (f + 1) T = if (tgF V T 225).1 = -1 then 1 else cmL V T ((tgF V T 225).1.toNat / 16) ((tgF V T 225).1.toNat % 16) (fun c => cmF V f (sPut T ((tgF V T 225).1.toNat / 16) ((tgF V T 225).1.toNat % 16) c)) 15 := rfl
  rw [e, if_neg (by rw [h]; omega), e1, e2]
theorem tg_pr {V : Nat} {T : sT} : ∀ n, n ≤ 225 → (tgF V T n).1 = -1 ∨ ∃ a b : Nat, a < b ∧ b < V ∧ b < 15 ∧ T a b = -1 ∧ (tgF V T n).1 = ((16 * a + b : Nat) : Int)
  | 0, _ => Or.inl rfl
  | n + 1, h => by
    show (if _ then _ else _ : Int × Int).1 = -1 ∨ _
    by_cases g : unB V T n = true ∧ ((fitC V T (n / 15) (n % 15) : Nat) : Int) < (tgF V T n).2
    · right
      have k := of_decide_eq_true g.1
      exact ⟨n / 15, n % 15, k.1, k.2.1, by omega, k.2.2, by
        show (if _ then _ else _ : Int × Int).1 = _
        rw [if_pos g]⟩
    · have ih := tg_pr (V := V) (T := T) n (by omega)
      have e : tgF V T (n + 1) = tgF V T n := if_neg g
      rw [if_neg g, e]
      exact ih
theorem sm_eq0c {f : Nat → Nat} : ∀ {n : Nat}, sm f n = 0 → ∀ i, i < n → f i = 0
  | n + 1, h, i, hi => by
    have e : sm f (n + 1) = sm f n + f n := rfl
    by_cases g : i = n
    · subst g; omega
    · exact sm_eq0c (n := n) (by omega) i (by omega)
theorem op_pos {V a b : Nat} {T : sT} (hT : sOk V T) (ha : a < V) (hb : b < V) (hab : ¬ a = b) (h : T a b = -1) : 1 ≤ opC V T := by
  have h15 := hT.2.1
  apply Classical.byContradiction
  intro g
  have e1 := op_len hT
  have e2 := (op_half hT).1
  have e3 := sq_even ⟨V, by omega⟩
  have e3 : V * (V - 1) % 2 = 0 := e3
  have e4 : sm (opI V T) V = 0 := by omega
  have e5 := sm_eq0c e4 a ha
  have e6 := sm_eq0c (f := fun i => iv (i < V ∧ ¬ a = i ∧ T a i = -1)) (n := 15) e5 b (by omega)
  rw [iv_t (p := b < V ∧ ¬ a = b ∧ T a b = -1) ⟨hb, hab, h⟩] at e6
  omega
theorem op_put {V x y z : Nat} {T : sT} (hT : sOk V T) (hx : x < V) (hy : y < V) (hz : z < V) (hxy : ¬ x = y) (hyz : ¬ y = z) (hxz : ¬ x = z) (hf : sFree T x y z) : opC V (sPut T x y z) + 3 = opC V T := by
  have e := len_put hT hx hy hz hxy hyz hxz hf
  have k := (op_half (sOk_putU hT hx hy hz hxy hyz hxz hf)).2
  unfold opC
  omega
theorem put_at {T : sT} {a b c : Nat} (hab : ¬ a = b) : sPut T a b c a b = (c : Int) := by
  show (if sPr a b c a b then _ else _) = _
  rw [if_pos ⟨hab, Or.inl rfl, Or.inr (Or.inl rfl)⟩]
  omega
theorem u192 : bUp 0 am_m192.1 = true := by decide +kernel
theorem l192E {d V a b f : Nat} {T : sT} {hp0 : amH} {R : xQ} {k p wa wb s : Int32} (hT : sOk V T) (ha : wa.toInt = (a : Int)) (hb : wb.toInt = (b : Int)) (hab : a < b) (hbV : b < V) (hop : T a b = -1) (hs : s.toInt = ((opN V T a &&& opN V T b : Nat) : Int)) (hk0 : 0 ≤ k.toInt) (hk : k.toInt < 10)
    (hC : ∀ (c : Nat) (hp : amH) (k2 : Int32) (R2 : xQ), c < V → ¬ a = c → ¬ b = c → sFree T a b c → bHk 84 bTT hp → bdOk hp 8 V (sPut T a b c) → k2.toInt = k.toInt + 1 → (∀ hp1, bHk 84 bTT hp1 → bFx [9, 11] hp hp1 → bdOk hp1 8 V (sPut T a b c) → R2 (.inl (some (.int (cmF V f (sPut T a b c))))) hp1) → xK (d + 2) 192 [.ref 8, .int k2] hp R2)
    (hR : ∀ hp1, bHk 84 bTT hp1 → bFx [9, 11] hp0 hp1 → bdOk hp1 8 V T → R (.inl (some (.int (cmL V T a b (fun c => cmF V f (sPut T a b c)) 15)))) hp1) :
    ∀ (jj c : Nat) (w wc : Int32) (hp : amH), wc.toInt = (c : Int) → c + jj = V → w = cmL V T a b (fun c => cmF V f (sPut T a b c)) c → bHk 84 bTT hp → bFx [9, 11] hp0 hp → bdOk hp 8 V T → xV (d + 3) am_m192 50 [some (.ref 8), some (.int k), some (.int p), some (.int wa), some (.int wb), some (.int s), some (.int w), some (.int wc)] [] hp R := by
  have h15 := hT.2.1
  intro jj
  induction jj with
  | zero =>
    intro c w wc hp hwc hj hw hH hF hB
    have b0 : rN hp 8 0 = (V : Int) := hB.1
    have ec : c = V := by omega
    subst ec
    rw [← cmL_end h15] at hw
    subst hw
    refine xild2 52 ⟨u192, _, rfl⟩ rfl rfl ?_
    refine xald 53 ⟨u192, _, rfl⟩ rfl rfl ?_
    refine xgetC 56 hH ⟨u192, _, rfl⟩ rfl (by decide) (by decide) rfl rfl (by decide) (fun z53 h53 => ?_)
    refine xcmp_ge 59 ⟨u192, _, rfl⟩ rfl (fun c56 => ?_) (fun c56 => ?_)
    · refine xild2 113 ⟨u192, _, rfl⟩ rfl rfl ?_
      exact xret ⟨u192, _, rfl⟩ rfl (hR _ hH hF hB)
    · omega
  | succ jj ih =>
    intro c w wc hp hwc hj hw hH hF hB
    have b0 : rN hp 8 0 = (V : Int) := hB.1
    refine xild2 52 ⟨u192, _, rfl⟩ rfl rfl ?_
    refine xald 53 ⟨u192, _, rfl⟩ rfl rfl ?_
    refine xgetC 56 hH ⟨u192, _, rfl⟩ rfl (by decide) (by decide) rfl rfl (by decide) (fun z53 h53 => ?_)
    refine xcmp_ge 59 ⟨u192, _, rfl⟩ rfl (fun c56 => ?_) (fun c56 => ?_)
    · omega
    · refine xild2 61 ⟨u192, _, rfl⟩ rfl rfl ?_
      refine xild2 63 ⟨u192, _, rfl⟩ rfl rfl ?_
      refine xcallS 66 [.int _, .int _] [] hH ⟨u192, _, rfl⟩ rfl rfl rfl rfl rfl (k_has (m := opN V T a &&& opN V T b) (n := c) hs (Nat.lt_of_le_of_lt Nat.and_le_left (op_lt V T a)) hwc (by omega) (fun z63 h63 => ⟨_, rfl, ?_⟩))
      rw [Nat.testBit_and, op_test h15, op_test h15] at h63
      have h63 : (z63.toInt = 1 ∧ (c < V ∧ ¬ a = c ∧ ¬ b = c ∧ T a c = -1 ∧ T b c = -1)) ∨ (z63.toInt = 0 ∧ ¬ (c < V ∧ ¬ a = c ∧ ¬ b = c ∧ T a c = -1 ∧ T b c = -1)) := by
        by_cases q : c < V ∧ ¬ a = c ∧ ¬ b = c ∧ T a c = -1 ∧ T b c = -1
        · left; rw [h63, if_pos (by rw [Bool.and_eq_true, decide_eq_true_iff, decide_eq_true_iff]; exact ⟨⟨by omega, q.1, q.2.1, q.2.2.2.1⟩, by omega, q.1, q.2.2.1, q.2.2.2.2⟩)]; exact ⟨rfl, q⟩
        · right; rw [h63, if_neg (fun z => q (by rw [Bool.and_eq_true, decide_eq_true_iff, decide_eq_true_iff] at z; exact ⟨z.1.2.1, z.1.2.2.1, z.2.2.2.1, z.1.2.2.2, z.2.2.2.2⟩))]; exact ⟨rfl, q⟩
      refine xif_eq 69 ⟨u192, _, rfl⟩ rfl (fun c66 => ?_) (fun c66 => ?_)
      · have n63 : ¬ (c < V ∧ ¬ a = c ∧ ¬ b = c ∧ T a c = -1 ∧ T b c = -1) := by omega
        refine xinc 108 (1) ⟨u192, _, rfl⟩ rfl rfl rfl (by decide) (by omega) (by omega) (fun z105 h105 => ?_)
        refine xgoto ⟨u192, _, rfl⟩ ?_
        exact ih (c + 1) _ _ _ (by omega) (by omega) (by rw [cmL_0 n63]; exact hw) hH hF hB
      · have G63 : c < V ∧ ¬ a = c ∧ ¬ b = c ∧ T a c = -1 ∧ T b c = -1 := by omega
        have fr : sFree T a b c := ⟨hop, G63.2.2.2.2, G63.2.2.2.1⟩
        refine xald 70 ⟨u192, _, rfl⟩ rfl rfl ?_
        refine xild 71 ⟨u192, _, rfl⟩ rfl rfl ?_
        refine xild2 73 ⟨u192, _, rfl⟩ rfl rfl ?_
        refine xild2 75 ⟨u192, _, rfl⟩ rfl rfl ?_
        refine xcallS 78 [.int _, .int _, .int _] [.ref 8] hH ⟨u192, _, rfl⟩ rfl rfl rfl rfl rfl (k_three (x := a) (y := b) (z := c) ha hb hwc (by omega) (by omega) (by omega) (fun z75 h75 => ⟨_, rfl, ?_⟩))
        refine xcallC 81 (o := 8) [.int _] [] hH ⟨u192, _, rfl⟩ rfl rfl (by decide) rfl (by decide) rfl ⟨rfl, rfl, rfl, rfl⟩ rfl (k_bputU (o := 8) (Or.inr rfl) hH hB h75 (by omega) hbV (by omega) (by omega) G63.2.2.1 G63.2.1 fr (fun hp78 hH78 F78 B78 => ⟨_, rfl, ?_⟩))
        refine xild2 83 ⟨u192, _, rfl⟩ rfl rfl ?_
        refine xald 84 ⟨u192, _, rfl⟩ rfl rfl ?_
        refine xild 85 ⟨u192, _, rfl⟩ rfl rfl ?_
        refine xcst 86 (1) ⟨u192, _, rfl⟩ rfl (by decide) (fun z85 h85 => ?_)
        refine xadd 87 _ ⟨u192, _, rfl⟩ rfl rfl (by omega) (by omega) (fun z86 h86 => ?_)
        refine xcallS 90 [.ref 8, .int _] [.int _] hH78 ⟨u192, _, rfl⟩ rfl rfl rfl rfl rfl (hC c _ _ _ (by omega) G63.2.1 G63.2.2.1 fr hH78 B78 (by omega) (fun hp87 hH87 F87 B87 => ⟨_, rfl, ?_⟩))
        refine xaddE 91 ⟨u192, _, rfl⟩ rfl (fun z90 h90 => ?_)
        refine xist2 93 ⟨u192, _, rfl⟩ rfl rfl ?_
        refine xald 94 ⟨u192, _, rfl⟩ rfl rfl ?_
        refine xild 95 ⟨u192, _, rfl⟩ rfl rfl ?_
        refine xild2 97 ⟨u192, _, rfl⟩ rfl rfl ?_
        refine xild2 99 ⟨u192, _, rfl⟩ rfl rfl ?_
        refine xcallS 102 [.int _, .int _, .int _] [.ref 8] hH87 ⟨u192, _, rfl⟩ rfl rfl rfl rfl rfl (k_three (x := a) (y := b) (z := c) ha hb hwc (by omega) (by omega) (by omega) (fun z99 h99 => ⟨_, rfl, ?_⟩))
        refine xcallC 105 (o := 8) [.int _] [] hH87 ⟨u192, _, rfl⟩ rfl rfl (by decide) rfl (by decide) rfl ⟨rfl, rfl, rfl, rfl⟩ rfl (k_bdropU (o := 8) (Or.inr rfl) hH87 B87 h99 (put_at (by omega)) (fun hp102 hH102 F102 B102 => ⟨_, rfl, ?_⟩))
        rw [take_put hT fr] at B102
        refine xinc 108 (1) ⟨u192, _, rfl⟩ rfl rfl rfl (by decide) (by omega) (by omega) (fun z105 h105 => ?_)
        refine xgoto ⟨u192, _, rfl⟩ ?_
        exact ih (c + 1) _ _ _ (by omega) (by omega) (by rw [cmL_1 G63, ← hw]; exact h90) hH102 (((hF.trans F78).trans F87).trans F102) B102
theorem k_192E {V : Nat} : ∀ (f : Nat) (T : sT) (hp : amH) (d : Nat) (R : xQ) (k : Int32), bHk 84 bTT hp → bdOk hp 8 V T → opC V T ≤ 3 * f → 0 ≤ k.toInt → k.toInt + (f : Int) ≤ 10 →
    (∀ hp1, bHk 84 bTT hp1 → bFx [9, 11] hp hp1 → bdOk hp1 8 V T → R (.inl (some (.int (cmF V f T)))) hp1) → xK (d + f + 3) 192 [.ref 8, .int k] hp R := by
  intro f
  induction f with
  | zero =>
    intro T hp d R k hH hB hc hk0 hk hR
    have hT := hB.2.1
    have h15 := hT.2.1
    have tn : (tgF V T 225).1 = -1 := by
      rcases tg_pr (V := V) (T := T) 225 (by omega) with e | ⟨a, b, q1, q2, q3, q4, -⟩
      · exact e
      · have := op_pos hT (show a < V by omega) q2 (by omega) q4
        omega
    refine xin (M := am_m192) rfl rfl rfl ?_
    refine xald 1 ⟨u192, _, rfl⟩ rfl rfl ?_
    refine xcallC 4 (o := 8) [] [] hH ⟨u192, _, rfl⟩ rfl rfl (by decide) rfl (by decide) rfl ⟨rfl, rfl, rfl, rfl⟩ rfl (k_25E (o := 8) (Or.inr rfl) hH hB (fun z1 h1 => ⟨_, rfl, ?_⟩))
    refine xist 5 ⟨u192, _, rfl⟩ rfl rfl ?_
    refine xild 6 ⟨u192, _, rfl⟩ rfl rfl ?_
    refine xcst 7 (-1) ⟨u192, _, rfl⟩ rfl (by decide) (fun z6 h6 => ?_)
    refine xcmp_ne 10 ⟨u192, _, rfl⟩ rfl (fun c7 => ?_) (fun c7 => ?_)
    · omega
    · refine xcst 11 (1) ⟨u192, _, rfl⟩ rfl (by decide) (fun z10 h10 => ?_)
      have e10 : z10 = cmF V 0 T := by rw [cmF_n (by omega)]; exact Int32.toInt_inj.mp (by rw [h10]; rfl)
      subst e10
      exact xret ⟨u192, _, rfl⟩ rfl (hR _ hH (fun _ _ _ => rfl) hB)
  | succ f ih =>
    intro T hp d R k hH hB hc hk0 hk hR
    have hT := hB.2.1
    have h15 := hT.2.1
    refine xin (M := am_m192) rfl rfl rfl ?_
    refine xald 1 ⟨u192, _, rfl⟩ rfl rfl ?_
    refine xcallC 4 (o := 8) [] [] hH ⟨u192, _, rfl⟩ rfl rfl (by decide) rfl (by decide) rfl ⟨rfl, rfl, rfl, rfl⟩ rfl (k_25E (o := 8) (Or.inr rfl) hH hB (fun z1 h1 => ⟨_, rfl, ?_⟩))
    refine xist 5 ⟨u192, _, rfl⟩ rfl rfl ?_
    refine xild 6 ⟨u192, _, rfl⟩ rfl rfl ?_
    refine xcst 7 (-1) ⟨u192, _, rfl⟩ rfl (by decide) (fun z6 h6 => ?_)
    refine xcmp_ne 10 ⟨u192, _, rfl⟩ rfl (fun c7 => ?_) (fun c7 => ?_)
    · obtain ⟨a, b, q1, q2, q3, q4, q5⟩ := (tg_pr (V := V) (T := T) 225 (by omega)).resolve_left (by omega)
      have o1 := op_pos hT (show a < V by omega) q2 (by omega) q4
      refine xild 13 ⟨u192, _, rfl⟩ rfl rfl ?_
      refine xbip 15 (10) ⟨u192, _, rfl⟩ rfl (by decide) (fun z13 h13 => ?_)
      refine xcmp_lt 18 ⟨u192, _, rfl⟩ rfl (fun c15 => ?_) (fun c15 => ?_)
      · refine xild 21 ⟨u192, _, rfl⟩ rfl rfl ?_
        refine xcst 22 (4) ⟨u192, _, rfl⟩ rfl (by decide) (fun z21 h21 => ?_)
        have e22 := i_shrG (x := z1) (c := z21) (n := 4) (a := 16 * a + b) (by omega) h21 (by decide)
        rw [show (16 * a + b) >>> 4 = a by rw [Nat.shiftRight_eq_div_pow]; omega] at e22
        refine xshr 23 ⟨u192, _, rfl⟩ rfl ?_
        refine xist 24 ⟨u192, _, rfl⟩ rfl rfl ?_
        refine xild 25 ⟨u192, _, rfl⟩ rfl rfl ?_
        refine xbip 27 (15) ⟨u192, _, rfl⟩ rfl (by decide) (fun z25 h25 => ?_)
        have e27 := i_and (x := z1) (y := z25) (a := 16 * a + b) (b := 15) (by omega) (by omega) (by omega)
        have e27 := e27.1
        rw [show (16 * a + b) &&& 15 = b by rw [show (15 : Nat) = 2 ^ 4 - 1 by rfl, Nat.and_two_pow_sub_one_eq_mod]; omega] at e27
        refine xand 28 ⟨u192, _, rfl⟩ rfl ?_
        refine xist2 30 ⟨u192, _, rfl⟩ rfl rfl ?_
        refine xald 31 ⟨u192, _, rfl⟩ rfl rfl ?_
        refine xild 32 ⟨u192, _, rfl⟩ rfl rfl ?_
        refine xcallC 35 (o := 8) [.int _] [] hH ⟨u192, _, rfl⟩ rfl rfl (by decide) rfl (by decide) rfl ⟨rfl, rfl, rfl, rfl⟩ rfl (k_opn (o := 8) (x := a) (Or.inr rfl) hH hB (by omega) (fun z32 h32 => ⟨_, rfl, ?_⟩))
        refine xald 36 ⟨u192, _, rfl⟩ rfl rfl ?_
        refine xild2 38 ⟨u192, _, rfl⟩ rfl rfl ?_
        refine xcallC 41 (o := 8) [.int _] [.int _] hH ⟨u192, _, rfl⟩ rfl rfl (by decide) rfl (by decide) rfl ⟨rfl, rfl, rfl, rfl⟩ rfl (k_opn (o := 8) (x := b) (Or.inr rfl) hH hB (by omega) (fun z38 h38 => ⟨_, rfl, ?_⟩))
        have e41 := (i_and h32 h38 (op_lt V T a)).1
        refine xand 42 ⟨u192, _, rfl⟩ rfl ?_
        refine xist2 44 ⟨u192, _, rfl⟩ rfl rfl ?_
        refine xcst 45 (0) ⟨u192, _, rfl⟩ rfl (by decide) (fun z44 h44 => ?_)
        refine xist2 47 ⟨u192, _, rfl⟩ rfl rfl ?_
        refine xcst 48 (0) ⟨u192, _, rfl⟩ rfl (by decide) (fun z47 h47 => ?_)
        refine xist2 50 ⟨u192, _, rfl⟩ rfl rfl ?_
        have e44 : z44 = cmL V T a b (fun c => cmF V f (sPut T a b c)) 0 := Int32.toInt_inj.mp (by rw [h44]; rfl)
        refine l192E (d := d + f + 1) (f := f) hT e22 e27 q1 q2 q4 e41 hk0 (by omega) (fun c hp2 k2 R2 g1 g2 g3 g4 g5 g6 g7 g8 => ih (sPut T a b c) hp2 d R2 k2 g5 g6 (by have := op_put hT (show a < V by omega) q2 g1 (by omega) g3 g2 g4; omega) (by omega) (by omega) g8) (fun hp1 a1 a2 a3 => by have u := hR hp1 a1 a2 a3; rw [cmF_s q5 q3] at u; exact u) V 0 _ _ _ h47 (by omega) e44 hH (fun _ _ _ => rfl) hB
      · omega
    · refine xcst 11 (1) ⟨u192, _, rfl⟩ rfl (by decide) (fun z10 h10 => ?_)
      have e10 : z10 = cmF V (f + 1) T := by rw [cmF_n (by omega)]; exact Int32.toInt_inj.mp (by rw [h10]; rfl)
      subst e10
      exact xret ⟨u192, _, rfl⟩ rfl (hR _ hH (fun _ _ _ => rfl) hB)
theorem u130 : bUp 0 am_m130.1 = true := by decide +kernel
theorem k_130E {d V n : Nat} {h : Nat → sR} {sv : Option sR} {T : sT} {ty : Nat → Int} {hp : amH} {R : xQ} (hH : bHk 84 bTT hp) (hS : clS hp (V, T, ty) n h sv)
    (hR : ∀ (z : Int32) hp1, bHk 84 bTT hp1 → cF hp hp1 → clS hp1 (V, T, ty) n h sv → z.toInt = (cmV V T).toInt → R (.inl (some (.int z))) hp1) : xK (d + 14) 130 [.ref 0] hp R := by
  have hB : bdOk hp 3 V T := hS.1
  have b0 : rN hp 3 0 = (V : Int) := hB.1
  have hL : lsN hp 3 T 225 := hS.2.1
  have b1 : rN hp 3 1 = (((trL T 225).length : Nat) : Int) := hL.1
  have hT0 : sOk V T := hB.2.1
  have h15 : V ≤ 15 := hT0.2.1
  have l35 : (trL T 225).length ≤ 35 := trL_35 hT0 225
  have nq0 : rN hp 49 0 = ((nQ T : Nat) : Int) := hS.2.2.1.1
  have hV : ¬ 30 < opC V T → cmV V T = cmF V 10 T := fun z => if_neg z
  refine xin (M := am_m130) rfl rfl rfl ?_
  refine xald 1 ⟨u130, _, rfl⟩ rfl rfl ?_
  refine xgetD 4 (3) hH ⟨u130, _, rfl⟩ rfl (by decide) (by decide) rfl rfl (by decide) ?_
  refine xcallC 7 (o := 3) [] [] hH ⟨u130, _, rfl⟩ rfl rfl (by decide) rfl (by decide) rfl ⟨rfl, rfl, rfl, rfl⟩ rfl (k_23E (o := 3) (Or.inl rfl) hH hB (fun z4 h4 => ⟨_, rfl, ?_⟩))
  refine xbip 9 (30) ⟨u130, _, rfl⟩ rfl (by decide) (fun z7 h7 => ?_)
  refine xcmp_le 12 ⟨u130, _, rfl⟩ rfl (fun c9 => ?_) (fun c9 => ?_)
  · refine xald 16 ⟨u130, _, rfl⟩ rfl rfl ?_
    refine xgetD 19 (8) hH ⟨u130, _, rfl⟩ rfl (by decide) (by decide) rfl rfl (by decide) ?_
    refine xald 20 ⟨u130, _, rfl⟩ rfl rfl ?_
    refine xgetD 23 (3) hH ⟨u130, _, rfl⟩ rfl (by decide) (by decide) rfl rfl (by decide) ?_
    refine xcallC 26 (o := 8) [.ref 3] [] hH ⟨u130, _, rfl⟩ rfl rfl (by decide) rfl (by decide) rfl ⟨rfl, rfl, rfl, rfl⟩ rfl (k_cpB (o := 8) (o2 := 3) (Or.inr rfl) (Or.inl rfl) (by decide) hH hB (fun hp23 hH23 F23 B23 n23 => ⟨_, rfl, ?_⟩))
    refine xald 27 ⟨u130, _, rfl⟩ rfl rfl ?_
    refine xgetD 30 (8) hH23 ⟨u130, _, rfl⟩ rfl (by decide) (by decide) rfl rfl (by decide) ?_
    refine xcst 31 (0) ⟨u130, _, rfl⟩ rfl (by decide) (fun z30 h30 => ?_)
    refine xcallS 34 [.ref 8, .int _] [] hH23 ⟨u130, _, rfl⟩ rfl rfl rfl rfl rfl (k_192E (V := V) 10 T hp23 (d + 0) _ _ hH23 B23 (by omega) (by omega) (by omega) (fun hp31 hH31 F31 B31 => ⟨_, rfl, ?_⟩))
    exact xret ⟨u130, _, rfl⟩ rfl (hR _ _ hH31 ((cF_x F23 (by simp)).trans (cF_x F31 (by simp))) (clS_8 (clS_8 hS (fun c k hc => F23 c k (by simp; omega))) (fun c k hc => F31 c k (by simp; omega))) (by rw [hV (by omega)]))
  · refine xbip 14 (-2) ⟨u130, _, rfl⟩ rfl (by decide) (fun z12 h12 => ?_)
    exact xret ⟨u130, _, rfl⟩ rfl (hR _ _ hH cF.refl hS (by show _ = Int32.toInt (if 30 < opC V T then (-2 : Int32) else cmF V 10 T); rw [if_pos (by omega), h12]; rfl))
theorem l284E {d V a b f : Nat} {T : sT} {ty : Nat → Int} {hp0 : amH} {R : xQ} {p wa wb : Int32} (hT : sOk V T) (ha : wa.toInt = (a : Int)) (hb : wb.toInt = (b : Int)) (hab : a < b) (hbV : b < V) (hop : T a b = -1)
    (hC : ∀ (c : Nat) (hp : amH) (R2 : xQ), c < V → ¬ a = c → ¬ b = c → sFree T a b c → bHk 84 bTT hp → P0 hp → rowOk (rN hp 67) (V, sPut T a b c, ty) → (∀ hp1, bHk 84 bTT hp1 → P0 hp1 → bFr [(67, 999)] hp hp1 → rowOk (rN hp1 67) (V, sPut T a b c, ty) → R2 (.inl (some (.int (cmF V f (sPut T a b c))))) hp1) → xK (d + 5) 284 [.ref 66] hp R2)
    (hR : ∀ hp1, bHk 84 bTT hp1 → P0 hp1 → bFr [(67, 999)] hp0 hp1 → rowOk (rN hp1 67) (V, T, ty) → R (.inl (some (.int (cmL V T a b (fun c => cmF V f (sPut T a b c)) 15)))) hp1) :
    ∀ (jj c : Nat) (w wc : Int32) (hp : amH), wc.toInt = (c : Int) → c + jj = V → w = cmL V T a b (fun c => cmF V f (sPut T a b c)) c → bHk 84 bTT hp → P0 hp → bFr [(67, 999)] hp0 hp → rowOk (rN hp 67) (V, T, ty) → xV (d + 6) am_m284 28 [some (.ref 66), some (.int p), some (.int wa), some (.int wb), some (.int w), some (.int wc)] [] hp R := by
  have h15 := hT.2.1
  intro jj
  induction jj with
  | zero =>
    intro c w wc hp hwc hj hw hH hP hF hB
    have b0 : rN hp 67 0 = (V : Int) := hB.1
    have ec : c = V := by omega
    subst ec
    rw [← cmL_end h15] at hw
    subst hw
    refine xild2 30 ⟨u284, _, rfl⟩ rfl rfl ?_
    refine xald 31 ⟨u284, _, rfl⟩ rfl rfl ?_
    refine xcall 34 [.ref 66] [.int _] hH ⟨u284, _, rfl⟩ rfl rfl rfl rfl rfl (k_points hH (fun z31 h31 => ⟨_, rfl, ?_⟩))
    refine xcmp_ge 37 ⟨u284, _, rfl⟩ rfl (fun c34 => ?_) (fun c34 => ?_)
    · refine xild2 96 ⟨u284, _, rfl⟩ rfl rfl ?_
      exact xret ⟨u284, _, rfl⟩ rfl (hR _ hH hP hF hB)
    · omega
  | succ jj ih =>
    intro c w wc hp hwc hj hw hH hP hF hB
    have b0 : rN hp 67 0 = (V : Int) := hB.1
    refine xild2 30 ⟨u284, _, rfl⟩ rfl rfl ?_
    refine xald 31 ⟨u284, _, rfl⟩ rfl rfl ?_
    refine xcall 34 [.ref 66] [.int _] hH ⟨u284, _, rfl⟩ rfl rfl rfl rfl rfl (k_points hH (fun z31 h31 => ⟨_, rfl, ?_⟩))
    refine xcmp_ge 37 ⟨u284, _, rfl⟩ rfl (fun c34 => ?_) (fun c34 => ?_)
    · omega
    · refine xild2 39 ⟨u284, _, rfl⟩ rfl rfl ?_
      refine xild 40 ⟨u284, _, rfl⟩ rfl rfl ?_
      refine xcmp_eq 43 ⟨u284, _, rfl⟩ rfl (fun c40 => ?_) (fun c40 => ?_)
      · refine xinc 91 (1) ⟨u284, _, rfl⟩ rfl rfl rfl (by decide) (by omega) (by omega) (fun z88 h88 => ?_)
        refine xgoto ⟨u284, _, rfl⟩ ?_
        exact ih (c + 1) _ _ _ (by omega) (by omega) (by rw [cmL_0 (by omega)]; exact hw) hH hP hF hB
      · refine xild2 45 ⟨u284, _, rfl⟩ rfl rfl ?_
        refine xild 46 ⟨u284, _, rfl⟩ rfl rfl ?_
        refine xcmp_eq 49 ⟨u284, _, rfl⟩ rfl (fun c46 => ?_) (fun c46 => ?_)
        · refine xinc 91 (1) ⟨u284, _, rfl⟩ rfl rfl rfl (by decide) (by omega) (by omega) (fun z88 h88 => ?_)
          refine xgoto ⟨u284, _, rfl⟩ ?_
          exact ih (c + 1) _ _ _ (by omega) (by omega) (by rw [cmL_0 (by omega)]; exact hw) hH hP hF hB
        · refine xald 50 ⟨u284, _, rfl⟩ rfl rfl ?_
          refine xild 51 ⟨u284, _, rfl⟩ rfl rfl ?_
          refine xild 52 ⟨u284, _, rfl⟩ rfl rfl ?_
          refine xild2 54 ⟨u284, _, rfl⟩ rfl rfl ?_
          refine xcall 57 [.ref 66, .int _, .int _, .int _] [] hH ⟨u284, _, rfl⟩ rfl rfl rfl rfl rfl (k_rfree hH (show rdOk hp V T from rowOk_rd hB) (x := a) (y := b) (z := c) ha hb hwc (by omega) hbV (by omega) (fun z54 h54 => ⟨_, rfl, ?_⟩))
          refine xif_ne 60 ⟨u284, _, rfl⟩ rfl (fun c57 => ?_) (fun c57 => ?_)
          · have fr : sFree T a b c := (h54.resolve_right (fun z => by omega)).2
            refine xald 64 ⟨u284, _, rfl⟩ rfl rfl ?_
            refine xild 65 ⟨u284, _, rfl⟩ rfl rfl ?_
            refine xild 66 ⟨u284, _, rfl⟩ rfl rfl ?_
            refine xild2 68 ⟨u284, _, rfl⟩ rfl rfl ?_
            refine xcall 71 [.ref 66, .int _, .int _, .int _] [] hH ⟨u284, _, rfl⟩ rfl rfl rfl rfl rfl (k_ptR hH hP hB (x := a) (y := b) (z := c) ha hb hwc (by omega) hbV (by omega) (by omega) (by omega) (by omega) fr (fun hp68 hH68 P68 F68 B68 => ⟨_, rfl, ?_⟩))
            refine xild2 73 ⟨u284, _, rfl⟩ rfl rfl ?_
            refine xald 74 ⟨u284, _, rfl⟩ rfl rfl ?_
            refine xcall 77 [.ref 66] [.int _] hH68 ⟨u284, _, rfl⟩ rfl rfl rfl rfl rfl (hC c _ _ (by omega) (by omega) (by omega) fr hH68 P68 B68 (fun hp74 hH74 P74 F74 B74 => ⟨_, rfl, ?_⟩))
            refine xaddE 78 ⟨u284, _, rfl⟩ rfl (fun z77 h77 => ?_)
            refine xist2 80 ⟨u284, _, rfl⟩ rfl rfl ?_
            refine xald 81 ⟨u284, _, rfl⟩ rfl rfl ?_
            refine xild 82 ⟨u284, _, rfl⟩ rfl rfl ?_
            refine xild 83 ⟨u284, _, rfl⟩ rfl rfl ?_
            refine xild2 85 ⟨u284, _, rfl⟩ rfl rfl ?_
            refine xcall 88 [.ref 66, .int _, .int _, .int _] [] hH74 ⟨u284, _, rfl⟩ rfl rfl rfl rfl rfl (k_tkR hH74 P74 B74 (x := a) (y := b) (z := c) ha hb hwc (put_at (by omega)) (fun hp85 hH85 P85 F85 B85 => ⟨_, rfl, ?_⟩))
            rw [take_put hT fr] at B85
            refine xinc 91 (1) ⟨u284, _, rfl⟩ rfl rfl rfl (by decide) (by omega) (by omega) (fun z88 h88 => ?_)
            refine xgoto ⟨u284, _, rfl⟩ ?_
            exact ih (c + 1) _ _ _ (by omega) (by omega) (by rw [cmL_1 (show c < V ∧ ¬ a = c ∧ ¬ b = c ∧ T a c = -1 ∧ T b c = -1 from ⟨by omega, by omega, by omega, fr.2.2, fr.2.1⟩), ← hw]; exact h77) hH85 P85 (((hF.trans F68).trans F74).trans F85) B85
          · have nfr : ¬ sFree T a b c := (h54.resolve_left (fun z => by omega)).2
            refine xgoto ⟨u284, _, rfl⟩ ?_
            refine xinc 91 (1) ⟨u284, _, rfl⟩ rfl rfl rfl (by decide) (by omega) (by omega) (fun z88 h88 => ?_)
            refine xgoto ⟨u284, _, rfl⟩ ?_
            have nf : ¬ (c < V ∧ ¬ a = c ∧ ¬ b = c ∧ T a c = -1 ∧ T b c = -1) := fun z => nfr ⟨hop, z.2.2.2.2, z.2.2.2.1⟩
            exact ih (c + 1) _ _ _ (by omega) (by omega) (by rw [cmL_0 nf]; exact hw) hH hP hF hB
theorem k_284E {V : Nat} {ty : Nat → Int} : ∀ (f : Nat) (T : sT) (hp : amH) (d : Nat) (R : xQ), bHk 84 bTT hp → P0 hp → rowOk (rN hp 67) (V, T, ty) → opC V T ≤ 3 * f →
    (∀ hp1, bHk 84 bTT hp1 → P0 hp1 → bFr [(67, 999)] hp hp1 → rowOk (rN hp1 67) (V, T, ty) → R (.inl (some (.int (cmF V f T)))) hp1) → xK (d + f + 6) 284 [.ref 66] hp R := by
  intro f
  induction f with
  | zero =>
    intro T hp d R hH hP hB hc hR
    have hT : sOk V T := hB.2.1
    have h15 := hT.2.1
    have tn : (tgF V T 225).1 = -1 := by
      rcases tg_pr (V := V) (T := T) 225 (by omega) with e | ⟨a, b, q1, q2, q3, q4, -⟩
      · exact e
      · have := op_pos hT (show a < V by omega) q2 (by omega) q4
        omega
    refine xin (M := am_m284) rfl rfl rfl ?_
    refine xald 1 ⟨u284, _, rfl⟩ rfl rfl ?_
    refine xcall 4 [.ref 66] [] hH ⟨u284, _, rfl⟩ rfl rfl rfl rfl rfl (k_283E hH (show rdOk hp V T from rowOk_rd hB) (fun z1 h1 => ⟨_, rfl, ?_⟩))
    refine xist 5 ⟨u284, _, rfl⟩ rfl rfl ?_
    refine xild 6 ⟨u284, _, rfl⟩ rfl rfl ?_
    refine xcst 7 (-1) ⟨u284, _, rfl⟩ rfl (by decide) (fun z6 h6 => ?_)
    refine xcmp_ne 10 ⟨u284, _, rfl⟩ rfl (fun c7 => ?_) (fun c7 => ?_)
    · omega
    · refine xcst 11 (1) ⟨u284, _, rfl⟩ rfl (by decide) (fun z10 h10 => ?_)
      have e10 : z10 = cmF V 0 T := by rw [cmF_n (by omega)]; exact Int32.toInt_inj.mp (by rw [h10]; rfl)
      subst e10
      exact xret ⟨u284, _, rfl⟩ rfl (hR _ hH hP (fun _ _ _ => rfl) hB)
  | succ f ih =>
    intro T hp d R hH hP hB hc hR
    have hT : sOk V T := hB.2.1
    have h15 := hT.2.1
    refine xin (M := am_m284) rfl rfl rfl ?_
    refine xald 1 ⟨u284, _, rfl⟩ rfl rfl ?_
    refine xcall 4 [.ref 66] [] hH ⟨u284, _, rfl⟩ rfl rfl rfl rfl rfl (k_283E hH (show rdOk hp V T from rowOk_rd hB) (fun z1 h1 => ⟨_, rfl, ?_⟩))
    refine xist 5 ⟨u284, _, rfl⟩ rfl rfl ?_
    refine xild 6 ⟨u284, _, rfl⟩ rfl rfl ?_
    refine xcst 7 (-1) ⟨u284, _, rfl⟩ rfl (by decide) (fun z6 h6 => ?_)
    refine xcmp_ne 10 ⟨u284, _, rfl⟩ rfl (fun c7 => ?_) (fun c7 => ?_)
    · obtain ⟨a, b, q1, q2, q3, q4, q5⟩ := (tg_pr (V := V) (T := T) 225 (by omega)).resolve_left (by omega)
      have o1 := op_pos hT (show a < V by omega) q2 (by omega) q4
      refine xild 13 ⟨u284, _, rfl⟩ rfl rfl ?_
      refine xbip 15 (16) ⟨u284, _, rfl⟩ rfl (by decide) (fun z13 h13 => ?_)
      refine xdiv 16 (Int32.toInt z1 / 16) ⟨u284, _, rfl⟩ rfl (by omega) (by omega) (by rw [h13]) (fun z15 h15 => ?_)
      refine xist 17 ⟨u284, _, rfl⟩ rfl rfl ?_
      refine xild 18 ⟨u284, _, rfl⟩ rfl rfl ?_
      refine xbip 20 (16) ⟨u284, _, rfl⟩ rfl (by decide) (fun z18 h18 => ?_)
      refine xrem 21 (Int32.toInt z1 % 16) ⟨u284, _, rfl⟩ rfl (by omega) (by omega) (by rw [h18]) (fun z20 h20 => ?_)
      refine xist 22 ⟨u284, _, rfl⟩ rfl rfl ?_
      refine xcst 23 (0) ⟨u284, _, rfl⟩ rfl (by decide) (fun z22 h22 => ?_)
      refine xist2 25 ⟨u284, _, rfl⟩ rfl rfl ?_
      refine xcst 26 (0) ⟨u284, _, rfl⟩ rfl (by decide) (fun z25 h25 => ?_)
      refine xist2 28 ⟨u284, _, rfl⟩ rfl rfl ?_
      have e22 : z22 = cmL V T a b (fun c => cmF V f (sPut T a b c)) 0 := Int32.toInt_inj.mp (by rw [h22]; rfl)
      refine l284E (d := d + f + 1) (f := f) hT (a := a) (b := b) (by omega) (by omega) q1 q2 q4 (fun c hp2 R2 g1 g2 g3 g4 g5 g6 g7 g8 => ih (sPut T a b c) hp2 d R2 g5 g6 g7 (by have := op_put hT (show a < V by omega) q2 g1 (by omega) g3 g2 g4; omega) g8) (fun hp1 a1 a2 a3 a4 => by have u := hR hp1 a1 a2 a3 a4; rw [cmF_s q5 q3] at u; exact u) V 0 _ _ _ h25 (by omega) e22 hH hP (fun _ _ _ => rfl) hB
    · refine xcst 11 (1) ⟨u284, _, rfl⟩ rfl (by decide) (fun z10 h10 => ?_)
      have e10 : z10 = cmF V (f + 1) T := by rw [cmF_n (by omega)]; exact Int32.toInt_inj.mp (by rw [h10]; rfl)
      subst e10
      exact xret ⟨u284, _, rfl⟩ rfl (hR _ hH hP (fun _ _ _ => rfl) hB)
theorem k_285E {d V n : Nat} {h : Nat → sR} {sv : Option sR} {T : sT} {ty : Nat → Int} {hp : amH} {R : xQ} (hH : bHk 84 bTT hp) (hP : P0 hp) (hS : rfS hp (V, T, ty) n h sv)
    (hR : ∀ (z : Int32) hp1, bHk 84 bTT hp1 → P0 hp1 → bFr wM hp hp1 → rfS hp1 (V, T, ty) n h sv → z.toInt = (cmV V T).toInt → R (.inl (some (.int z))) hp1) : xK (d + 17) 285 [.ref 66] hp R := by
  have hB : rdOk hp V T := rowOk_rd hS.1
  have b0 : rN hp 67 0 = (V : Int) := hB.1
  have hT0 : sOk V T := hB.2.1
  have h15 : V ≤ 15 := hT0.2.1
  have l35 : (trL T 225).length ≤ 35 := trL_35 hT0 225
  have hV : ¬ 30 < opC V T → cmV V T = cmF V 10 T := fun z => if_neg z
  refine xin (M := am_m285) rfl rfl rfl ?_
  refine xald 1 ⟨u285, _, rfl⟩ rfl rfl ?_
  refine xcst 2 (0) ⟨u285, _, rfl⟩ rfl (by decide) (fun z1 h1 => ?_)
  refine xputI 5 hH ⟨u285, _, rfl⟩ rfl rfl ⟨rfl, rfl⟩ (by omega) (by omega) (fun hp2 hH2 U2 => ?_)
  have s2 := U2.1
  have S2 := rfS_W (W := [(66, 7)]) hS (rU_fr U2 rfl) (fun _ => rfl) rfl rfl (fun _ => rfl) (fun _ => rfl)
  have P2 := P0_W (W := [(66, 7)]) (by decide) (rU_fr U2 rfl) hP
  refine xald 6 ⟨u285, _, rfl⟩ rfl rfl ?_
  refine xcall 9 [.ref 66] [] hH2 ⟨u285, _, rfl⟩ rfl rfl rfl rfl rfl (k_215E hH2 P2 (show rdOk hp2 V T from rowOk_rd S2.1) (fun z6 hp6 hH6 F6 B6 L6 h6 => ⟨_, rfl, ?_⟩))
  have S6 := rfS_W S2 F6 (fun _ => rfl) rfl rfl (fun _ => rfl) (fun _ => rfl)
  have P6 := P0_W (W := bLT) (by decide) F6 P2
  refine xbip 11 (30) ⟨u285, _, rfl⟩ rfl (by decide) (fun z9 h9 => ?_)
  refine xcmp_le 14 ⟨u285, _, rfl⟩ rfl (fun c11 => ?_) (fun c11 => ?_)
  · refine xald 20 ⟨u285, _, rfl⟩ rfl rfl ?_
    refine xcall 23 [.ref 66] [] hH6 ⟨u285, _, rfl⟩ rfl rfl rfl rfl rfl (k_284E (V := V) 10 T hp6 (d + 0) _ hH6 P6 S6.1 (by omega) (fun hp20 hH20 P20 F20 B20 => ⟨_, rfl, ?_⟩))
    exact xret ⟨u285, _, rfl⟩ rfl (hR _ _ hH20 P20 (((rU_fr U2 (by decide)).trans (bFr_sub F6 (by decide))).trans (bFr_sub F20 (by decide))) ⟨B20, hyR_fr S6.2 (r_fr F20 rfl) (r_fr F20 rfl) (fun _ => r_fr F20 rfl) (fun _ => r_fr F20 rfl)⟩ (by rw [hV (by omega)]))
  · refine xbip 16 (-2) ⟨u285, _, rfl⟩ rfl (by decide) (fun z14 h14 => ?_)
    refine xgoto ⟨u285, _, rfl⟩ ?_
    exact xret ⟨u285, _, rfl⟩ rfl (hR _ _ hH6 P6 ((rU_fr U2 (by decide)).trans (bFr_sub F6 (by decide))) S6 (by show _ = Int32.toInt (if 30 < opC V T then (-2 : Int32) else cmF V 10 T); rw [if_pos (by omega), h14]; rfl))
end
