/-! ##### 13.f.bcel ##### -/
section
/-! ===== runs over invariants: cells read and written ===== -/
section BHP
variable {n : Nat} {T : Nat → Option bD} {W : List (Nat × Nat)}
/-- a field's value as it is known -/
noncomputable def bFget (F : bF) (c k : Nat) : Option bV := match F with
  | [] => none
  | f :: r => (match Nat.beq f.1 c with
    | true => (match Nat.beq f.2.1 k with
      | true => some f.2.2
      | false => bFget r c k)
    | false => bFget r c k)
theorem bFget_s : ∀ {F : bF} {c k : Nat} {v : bV}, bFget F c k = some v → (c, k, v) ∈ F
  | f :: r, c, k, v, h => by
    unfold bFget at h
    split at h
    · next e1 =>
      split at h
      · next e2 =>
        cases h
        rw [← Nat.eq_of_beq_eq_true e1, ← Nat.eq_of_beq_eq_true e2]
        exact List.mem_cons_self
      · exact List.mem_cons_of_mem _ (bFget_s h)
    · exact List.mem_cons_of_mem _ (bFget_s h)
noncomputable def bFdel (F : bF) (c k : Nat) : bF := match F with
  | [] => []
  | f :: r => (match Nat.beq f.1 c with
    | true => (match Nat.beq f.2.1 k with
      | true => bFdel r c k
      | false => f :: bFdel r c k)
    | false => f :: bFdel r c k)
theorem bFdel_s : ∀ {F : bF} {c k : Nat} {f : Nat × Nat × bV}, f ∈ bFdel F c k → f ∈ F ∧ ¬ (f.1 = c ∧ f.2.1 = k)
  | g :: r, c, k, f, h => by
    unfold bFdel at h
    split at h
    · next e1 =>
      split at h
      · exact ⟨List.mem_cons_of_mem _ (bFdel_s h).1, (bFdel_s h).2⟩
      · next e2 =>
        cases h with
        | head => exact ⟨List.mem_cons_self, fun z => by rw [z.2] at e2; simp at e2⟩
        | tail _ h => exact ⟨List.mem_cons_of_mem _ (bFdel_s h).1, (bFdel_s h).2⟩
    · next e1 =>
      cases h with
      | head => exact ⟨List.mem_cons_self, fun z => by rw [z.1] at e1; simp at e1⟩
      | tail _ h => exact ⟨List.mem_cons_of_mem _ (bFdel_s h).1, (bFdel_s h).2⟩
noncomputable def bFdels (F : bF) : List Nat → Nat → bF
  | [], _ => F
  | c :: l, k => bFdels (bFdel F c k) l k
theorem bFdels_s : ∀ {l : List Nat} {F : bF} {k : Nat} {f : Nat × Nat × bV}, f ∈ bFdels F l k → f ∈ F ∧ ∀ c ∈ l, ¬ (f.1 = c ∧ f.2.1 = k)
  | [], F, k, f, h => ⟨h, fun _ z => by cases z⟩
  | c :: l, F, k, f, h => by
    obtain ⟨h1, h2⟩ := bFdels_s (l := l) (F := bFdel F c k) h
    obtain ⟨h3, h4⟩ := bFdel_s h1
    refine ⟨h3, fun d hd => ?_⟩
    cases hd with
    | head => exact h4
    | tail _ hd => exact h2 d hd
/-- a field's type at a cell of the class ci -/
noncomputable def bFt (T : Nat → Option bD) (ci k c : Nat) : Option bY := match T c with
  | some D => (match Nat.beq D.1 ci with
    | true => (match Nat.ble 32 D.1 with
      | true => none
      | false => (match Nat.ble (Nat.add k 1) D.2.1 with
        | true => lAt D.2.2 k
        | false => none))
    | false => none)
  | none => none
theorem bFt_s {ci k c : Nat} {y : bY} (h : bFt T ci k c = some y) {hp : amH} (hk : bHk n T hp) (hc : c < n) : ci < 32 ∧ ∃ D d, T c = some D ∧ hp[c]? = some (ci, d) ∧ bHc n D (ci, d) ∧ bDy D k = some y ∧ k < d.length := by
  unfold bFt at h
  split at h
  · next D e =>
    split at h
    · next e1 =>
      split at h
      · cases h
      · next e2 =>
        split at h
        · next e4 =>
          have e1 := Nat.eq_of_beq_eq_true e1
          have e3 := a_nle e2
          obtain ⟨d, h1, h2⟩ := bHk_at hk hc e
          obtain ⟨t, d⟩ := d
          have h3 : t = D.1 := h2.1
          subst h3
          subst e1
          refine ⟨e3, D, d, e, h1, h2, ?_, ?_⟩
          · unfold bDy
            rw [e2]
            exact h
          · have h5 : d.length = D.2.1 := h2.2.1
            rw [h5]
            exact a_lt1 e4
        · cases h
    · cases h
  · cases h
noncomputable def bGetA (T : Nat → Option bD) (pc ci k : Nat) : bA := fun ls st S => match st with
  | .inr (.inr (.inr l)) :: r => (match l with
    | [] => none
    | c :: l' => (match bFt T ci k c with
      | none => none
      | some y => (match l' with
        | [] => (match bFget S.2.1 c k with
          | some v => some [(pc, ls, v :: r, S)]
          | none => (match bOfY S.1 y with
            | (v, E') => some [(pc, ls, v :: r, E', (c, k, v) :: S.2.1, S.2.2)]))
        | _ :: _ => (match lAll (fun d => match bFt T ci k d with
            | some y' => bYle y' y
            | none => false) l' with
          | true => (match bOfY S.1 y with
            | (v, E') => some [(pc, ls, v :: r, E', S.2)])
          | false => none))))
  | _ => none
theorem bGetA_ok {pc ci k : Nat} : bOk n T W (bGetA T pc ci k) (fun ls st hp => (amFGet ci k hp st).map (fun s => (pc, ls, s, hp))) := by
  intro ls st S L ρ cl cs hp e hr
  unfold bGetA at e
  split at e
  · next l r =>
    obtain ⟨w, ws, rfl, hv, hs⟩ := bRs_cons hr.2.1
    obtain ⟨i, rfl, hi, hil⟩ := hv
    split at e
    · cases e
    · next c l' =>
      split at e
      · cases e
      · next y ey =>
        have key : ∀ y', bFt T ci k i = some y' → ∃ d u, hp[i]? = some (ci, d) ∧ d[k]? = some u ∧ bYr n y' u ∧ (amFGet ci k hp (.ref i :: ws)).map (fun s => (pc, cl, s, hp)) = some (pc, cl, u :: ws, hp) := by
          intro y' ey'
          obtain ⟨h0, D, d, h1, h2, h3, h4, h5⟩ := bFt_s ey' hr.2.2.2 hi
          obtain ⟨y2, g1, g2⟩ := h3.2.2 k _ (List.getElem?_eq_getElem h5)
          rw [h4] at g1
          cases g1
          refine ⟨d, d[k], h2, List.getElem?_eq_getElem h5, g2, ?_⟩
          simp only [amFGet, h2, h0, and_self, if_true, List.getElem?_eq_getElem h5, Option.map_some]
        split at e
        · have hic : i = c := by simpa using hil
          subst hic
          obtain ⟨d, u, k1, k2, k3, k4⟩ := key y ey
          split at e
          · next v ev =>
            cases e
            obtain ⟨u', g1, g2⟩ := hr.2.2.1.2.1 _ (bFget_s ev)
            have hu : u' = u := by
              simp only [bFld, k1, k2] at g1
              exact (Option.some.inj g1).symm
            subst hu
            exact ⟨_, k4, bOne rfl (List.prefix_refl _) hr.1 ⟨g2, hs⟩ hr.2.2.1 hr.2.2.2 (bFr.refl _ _)⟩
          · obtain ⟨ρ', h1, h2, h3⟩ := bOfY_s (n := n) hr.2.2.1.1 k3
            split at e
            next v E' ev =>
            rw [ev] at h2 h3
            cases e
            have h4 := bRS_ext h1 hr.2.2.1 h2
            refine ⟨_, k4, bOne rfl h1 (bRl_mono h1 hr.1) ⟨h3, bRs_mono h1 hs⟩ ⟨h4.1, fun f hf => ?_, h4.2.2⟩ hr.2.2.2 (bFr.refl _ _)⟩
            cases hf with
            | head => exact ⟨u, by simp only [bFld, k1, k2], h3⟩
            | tail _ hf => exact h4.2.1 f hf
        · next c2 l2 =>
          split at e
          · next ea =>
            have : ∃ y', bFt T ci k i = some y' ∧ ∀ w, bYr n y' w → bYr n y w := by
              cases hil with
              | head => exact ⟨y, ey, fun _ z => z⟩
              | tail _ hil =>
                have := lAll_m ea i hil
                split at this
                · next y' e' => exact ⟨y', e', fun _ z => bYle_s this z⟩
                · cases this
            obtain ⟨y', e1, e2⟩ := this
            obtain ⟨d, u, k1, k2, k3, k4⟩ := key y' e1
            obtain ⟨ρ', h1, h2, h3⟩ := bOfY_s (n := n) hr.2.2.1.1 (e2 _ k3)
            split at e
            next v E' ev =>
            rw [ev] at h2 h3
            cases e
            exact ⟨_, k4, bOne rfl h1 (bRl_mono h1 hr.1) ⟨h3, bRs_mono h1 hs⟩ (bRS_ext h1 hr.2.2.1 h2) hr.2.2.2 (bFr.refl _ _)⟩
          · cases e
  · cases e
noncomputable def bFits (ty : FieldType) (E : bE) (v : bV) : Bool := match ty with
  | .int => bIsI v
  | .boolean => (match bIv E v with
    | some q => (match Nat.ble 2147483648 q.1 with
      | true => Nat.ble q.2 2147483649
      | false => false)
    | none => false)
  | .long => bIs 1 v
  | .object _ => (match v with
    | .inr (.inr (.inr _)) => true
    | _ => false)
  | .array _ => (match v with
    | .inr (.inr (.inr _)) => true
    | _ => false)
  | _ => false
theorem bBool {x : Int32} (h1 : 2147483648 ≤ aOff x) (h2 : aOff x ≤ 2147483649) : x = 0 ∨ x = 1 := by
  have h := aOff_eq x
  rcases (show x.toInt = 0 ∨ x.toInt = 1 by omega) with z | z
  · exact Or.inl (Int32.toInt_inj.mp (by rw [z]; rfl))
  · exact Or.inr (Int32.toInt_inj.mp (by rw [z]; rfl))
theorem bFits_s {ρ : List Nat} {E : bE} (hE : bRE ρ E) {ty : FieldType} {v : bV} {w : Value} (h : bFits ty E v = true) (hv : bR n ρ v w) : narrow ty w = w ∧ fits ty w = true := by
  unfold bFits at h
  split at h
  · obtain ⟨x, rfl⟩ := bIsI_s h hv; exact ⟨rfl, rfl⟩
  · split at h
    · next q eq =>
      split at h
      · next e1 =>
        obtain ⟨x, rfl, hx⟩ := bIv_s hE eq hv
        have hx := bIn_off.mp hx
        rcases bBool (x := x) (Nat.le_trans (a_le e1) hx.1) (Nat.le_trans hx.2 (a_le h)) with rfl | rfl
        · exact ⟨by decide, by decide⟩
        · exact ⟨by decide, by decide⟩
      · cases h
    · cases h
  · obtain ⟨x, rfl⟩ := bIs_J h hv; exact ⟨rfl, rfl⟩
  · split at h
    · obtain ⟨i, rfl, -⟩ := hv; exact ⟨rfl, rfl⟩
    · cases h
  · split at h
    · obtain ⟨i, rfl, -⟩ := hv; exact ⟨rfl, rfl⟩
    · cases h
  · cases h
noncomputable def bPutA (T : Nat → Option bD) (W : List (Nat × Nat)) (pc ci k : Nat) (ty : FieldType) : bA := fun ls st S => match st with
  | v :: .inr (.inr (.inr l)) :: r => (match bFits ty S.1 v with
    | true => (match lAll (fun c => match bIn W c k with
        | true => (match bFt T ci k c with
          | some y => bLe S.1 v y
          | none => false)
        | false => false) l with
      | true => (match l with
        | [c] => some [(pc, ls, r, S.1, (c, k, v) :: bFdel S.2.1 c k, S.2.2)]
        | _ => some [(pc, ls, r, S.1, bFdels S.2.1 l k, S.2.2)])
      | false => none)
    | false => none)
  | _ => none
theorem bPutA_ok {pc ci k : Nat} {ty : FieldType} : bOk n T W (bPutA T W pc ci k ty) (fun ls st hp => (amFSet ci k ty hp st).map (fun q => (pc, ls, q.1, q.2))) := by
  intro ls st S L ρ cl cs hp e hr
  unfold bPutA at e
  split at e
  · next v l r =>
    obtain ⟨w, ws, rfl, hv, hs⟩ := bRs_cons hr.2.1
    obtain ⟨w2, ws, rfl, hv2, hs2⟩ := bRs_cons hs
    obtain ⟨i, rfl, hi, hil⟩ := hv2
    split at e
    · next ef =>
      split at e
      · next ea =>
        have ha := lAll_m ea i hil
        split at ha
        · next eW =>
          split at ha
          · next y ey =>
            obtain ⟨h0, D, d, h1, h2, h3, h4, h5⟩ := bFt_s ey hr.2.2.2 hi
            obtain ⟨f1, f2⟩ := bFits_s hr.2.2.1.1 ef hv
            have hset := bHk_set hr.2.2.2 h1 (bHc_set h3 h4 (bLe_s hr.2.2.1.1 ha hv))
            have hfr : bFr W hp (hp.set i (ci, d.set k w)) := bFr_set (d := (ci, d)) h2 eW
            have hcf : (amFSet ci k ty hp (w :: .ref i :: ws)).map (fun q => (pc, cl, q.1, q.2)) = some (pc, cl, ws, hp.set i (ci, d.set k w)) := by
              simp only [amFSet, h2, h0, h5, f1, f2, and_self, if_true, Option.map_some]
            have hold : ∀ f : Nat × Nat × bV, f ∈ S.2.1 → ¬ (f.1 = i ∧ f.2.1 = k) → ∃ u, bFld (hp.set i (ci, d.set k w)) f.1 f.2.1 = some u ∧ bR n ρ f.2.2 u := by
              intro f hf hne
              obtain ⟨u, g1, g2⟩ := hr.2.2.1.2.1 f hf
              refine ⟨u, ?_, g2⟩
              rw [bFld_set h2]
              split
              · next hi2 =>
                have hk : ¬ k = f.2.1 := fun z => hne ⟨hi2, z.symm⟩
                rw [List.getElem?_set_ne hk]
                rw [hi2] at g1
                simp only [bFld, h2] at g1
                exact g1
              · exact g1
            split at e
            · next c =>
              cases e
              have hic : i = c := by simpa using hil
              subst hic
              refine ⟨_, hcf, bOne rfl (List.prefix_refl _) hr.1 hs2 ⟨hr.2.2.1.1, fun f hf => ?_, hr.2.2.1.2.2⟩ hset hfr⟩
              cases hf with
              | head =>
                refine ⟨w, ?_, hv⟩
                rw [bFld_set h2, if_pos rfl]
                exact List.getElem?_set_self h5
              | tail _ hf => exact hold f (bFdel_s hf).1 (bFdel_s hf).2
            · cases e
              refine ⟨_, hcf, bOne rfl (List.prefix_refl _) hr.1 hs2 ⟨hr.2.2.1.1, fun f hf => ?_, hr.2.2.1.2.2⟩ hset hfr⟩
              exact hold f (bFdels_s hf).1 ((bFdels_s hf).2 i hil)
          · cases ha
        · cases ha
      · cases e
    · cases e
  · cases e
/-! rows -/
noncomputable def bDn (a : Nat) : Nat := Nat.sub a 2147483648
theorem bDn_eq (a : Nat) : bDn a = a - 2147483648 := rfl
/-- the type of what stands in a row of the kind t at places within q; wr: to be written -/
noncomputable def bRowQ (wr : Bool) (q : Nat × Nat) (l : List bY) : Option bY := match l with
  | [] => none
  | [y] => some y
  | y :: z :: zs => (match Nat.beq q.1 q.2 with
    | true => lAt (z :: zs) (bDn q.1)
    | false => (match wr with
      | true => none
      | false => (match lAll (fun u => bYle u y) (z :: zs) with
        | true => some y
        | false => none)))
noncomputable def bRng (q : Nat × Nat) (k : Nat) : Bool := Nat.ble 2147483648 q.1 && Nat.ble (Nat.add (bDn q.2) 1) k
theorem bRng_s {q : Nat × Nat} {k : Nat} (h : bRng q k = true) : 2147483648 ≤ q.1 ∧ q.2 - 2147483648 < k := by
  unfold bRng at h
  rw [Bool.and_eq_true] at h
  have h2 := a_lt1 h.2
  rw [bDn_eq] at h2
  exact ⟨a_le h.1, h2⟩
noncomputable def bElt (T : Nat → Option bD) (wr : Bool) (t : Nat) (q : Nat × Nat) (c : Nat) : Option bY := match T c with
  | some D => (match Nat.beq D.1 t with
    | true => (match Nat.ble 32 D.1 with
      | true => (match bRng q D.2.1 with
        | true => bRowQ wr q D.2.2
        | false => none)
      | false => none)
    | false => none)
  | none => none
theorem lAt_mem {α : Type} {l : List α} {i : Nat} {v : α} (h : lAt l i = some v) : v ∈ l := by
  rw [lAt_eq] at h
  exact List.mem_of_getElem? h
theorem bRowQ_s {wr : Bool} {q : Nat × Nat} {l : List bY} {y : bY} (h : bRowQ wr q l = some y) {i : Nat} (h1 : bDn q.1 ≤ i) (h2 : i ≤ bDn q.2) {y' : bY} (hy : bRow l i = some y') : (∀ w, bYr n y' w → bYr n y w) ∧ (wr = true → y' = y) := by
  unfold bRowQ at h
  unfold bRow at hy
  split at h
  · cases h
  · cases h
    cases hy
    exact ⟨fun _ z => z, fun _ => rfl⟩
  · dsimp only at hy
    split at h
    · next e =>
      have e := Nat.eq_of_beq_eq_true e
      rw [← e] at h2
      have : i = bDn q.1 := Nat.le_antisymm h2 h1
      rw [this, h] at hy
      cases hy
      exact ⟨fun _ z => z, fun _ => rfl⟩
    · split at h
      · cases h
      · split at h
        · next ea =>
          cases h
          exact ⟨fun w z => bYle_s (lAll_m ea y' (lAt_mem hy)) z, fun z => by cases z⟩
        · cases h
theorem bElt_s {wr : Bool} {t c : Nat} {q : Nat × Nat} {y : bY} (h : bElt T wr t q c = some y) {hp : amH} (hk : bHk n T hp) (hc : c < n) {x : Int32} (hx : aIn q.1 q.2 x) :
    ∃ D d, T c = some D ∧ hp[c]? = some (t, d) ∧ bHc n D (t, d) ∧ x.toNatClampNeg < d.length ∧ amIn x d.length = true ∧ ∃ y', bDy D x.toNatClampNeg = some y' ∧ (∀ w, bYr n y' w → bYr n y w) ∧ (wr = true → y' = y) := by
  unfold bElt at h
  split at h
  · next D e =>
    split at h
    · next e1 =>
      split at h
      · next e2 =>
        split at h
        · next e3 =>
            have e1 := Nat.eq_of_beq_eq_true e1
            obtain ⟨e3, e4⟩ := bRng_s e3
            obtain ⟨d, h1, h2⟩ := bHk_at hk hc e
            obtain ⟨t', d⟩ := d
            have h3 : t' = D.1 := h2.1
            subst h3
            subst e1
            have hlen : d.length = D.2.1 := h2.2.1
            have hx := bIn_off.mp hx
            have ax := aOff_eq x
            have hxn : (x.toNatClampNeg : Int) = x.toInt := by
              have : x.toNatClampNeg = x.toInt.toNat := rfl
              rw [this]
              omega
            have b1 := bDn_eq q.1
            have b2 := bDn_eq q.2
            have hlt : x.toNatClampNeg < d.length := by omega
            have hin : amIn x d.length = true := by
              refine decide_eq_true ?_
              rintro (z | z)
              · have := Int32.lt_iff_toInt_lt.mp z
                have z0 : (0 : Int32).toInt = 0 := by decide
                omega
              · omega
            obtain ⟨y2, g1, g2⟩ := h2.2.2 x.toNatClampNeg _ (List.getElem?_eq_getElem hlt)
            have g3 := g1
            unfold bDy at g1
            rw [e2] at g1
            obtain ⟨z1, z2⟩ := bRowQ_s h (i := x.toNatClampNeg) (by omega) (by omega) g1
            exact ⟨D, d, e, h1, h2, hlt, hin, y2, g3, z1, z2⟩
        · cases h
      · cases h
    · cases h
  · cases h
end BHP
end
/-! ##### 13.g.brow ##### -/
section
/-! ===== runs over invariants: rows read, written, copied ===== -/
section BRW
variable {n : Nat} {T : Nat → Option bD} {W : List (Nat × Nat)}
/-- the type's kind: what a row of the kind t bears -/
noncomputable def bKy (t : Nat) : bY → Bool
  | .inl _ => (match Nat.beq t 32 with
    | true => true
    | false => Nat.beq t 34)
  | .inr (.inl s) => (match Nat.beq t 33 with
    | true => Nat.beq s 1
    | false => false)
  | .inr (.inr _) => Nat.beq t 35
noncomputable def bKp (t : Nat) : Value → Bool := match t with
  | 33 => amIsJ
  | 35 => amIsA
  | _ => amIsI
theorem bKy_s {t : Nat} {y : bY} {w : Value} (h : bKy t y = true) (hw : bYr n y w) : bKp t w = true := by
  match y, h, hw with
  | .inl q, h, ⟨x, e, _⟩ =>
    subst e
    have : t = 32 ∨ t = 34 := by
      simp only [bKy] at h
      split at h
      · next e => exact Or.inl (Nat.eq_of_beq_eq_true e)
      · exact Or.inr (Nat.eq_of_beq_eq_true h)
    rcases this with rfl | rfl <;> rfl
  | .inr (.inl s), h, hw =>
    simp only [bKy] at h
    split at h
    · next e =>
      have e := Nat.eq_of_beq_eq_true e
      have h9 := Nat.eq_of_beq_eq_true ‹s.beq 1 = true›
      subst e
      subst h9
      rcases hw with ⟨-, x, rfl⟩ | ⟨h, -⟩ | ⟨h, -⟩ | ⟨h, -⟩ | ⟨h, -⟩
      · rfl
      · omega
      · omega
      · cases h
      · unfold amK at h; omega
    · cases h
  | .inr (.inr l), h, ⟨i, e, _⟩ =>
    subst e
    have h := Nat.eq_of_beq_eq_true h
    subst h
    rfl
noncomputable def bAldA (T : Nat → Option bD) (pc t : Nat) : bA := fun ls st S => match st with
  | i :: .inr (.inr (.inr l)) :: r => (match bIv S.1 i with
    | some q => (match l with
      | [] => none
      | c :: l' => (match bElt T false t q c with
        | some y => (match bKy t y with
          | true => (match lAll (fun d => match bElt T false t q d with
              | some y' => bYle y' y
              | none => false) l' with
            | true => (match bOfY S.1 y with
              | (v, E') => some [(pc, ls, v :: r, E', S.2)])
            | false => none)
          | false => none)
        | none => none))
    | none => none)
  | _ => none
theorem bAldA_k {pc t : Nat} {ls : bL} {st : List bV} {S : bS} {L : List bCf} {ρ : List Nat} {cl : amL} {cs : List Value} {hp : amH} (e : bAldA T pc t ls st S = some L) (hr : bRel n T ρ ls st S cl cs hp) :
    ∃ (x : Int32) (a : Nat) (ws : List Value) (w : Value), cs = .int x :: .ref a :: ws ∧ a < n ∧ amALd t (bKp t) hp cs = some (w :: ws) ∧ ∃ g ∈ L, ∃ ρ', ρ <+: ρ' ∧ g.1 = pc ∧ bRel n T ρ' g.2.1 g.2.2.1 g.2.2.2 cl (w :: ws) hp ∧ bFr W hp hp := by
  unfold bAldA at e
  split at e
  · next i l r =>
    obtain ⟨w, ws, rfl, hv, hs⟩ := bRs_cons hr.2.1
    obtain ⟨w2, ws, rfl, hv2, hs2⟩ := bRs_cons hs
    obtain ⟨a, rfl, ha, hal⟩ := hv2
    split at e
    · next q eq =>
      obtain ⟨x, rfl, hx⟩ := bIv_s hr.2.2.1.1 eq hv
      split at e
      · cases e
      · next c l' =>
        split at e
        · next y ey =>
          split at e
          · next ek =>
            split at e
            · next ea =>
              have : ∃ y', bElt T false t q a = some y' ∧ ∀ w, bYr n y' w → bYr n y w := by
                cases hal with
                | head => exact ⟨y, ey, fun _ z => z⟩
                | tail _ hal =>
                  have := lAll_m ea a hal
                  split at this
                  · next y' e' => exact ⟨y', e', fun _ z => bYle_s this z⟩
                  · cases this
              obtain ⟨y', e1, e2⟩ := this
              obtain ⟨D, d, h0, h1, h2, h3, h4, y2, h5, h6, -⟩ := bElt_s e1 hr.2.2.2 ha hx
              obtain ⟨y3, g1, g2⟩ := h2.2.2 x.toNatClampNeg _ (List.getElem?_eq_getElem h3)
              rw [h5] at g1
              cases g1
              have g3 := e2 _ (h6 _ g2)
              obtain ⟨ρ', k1, k2, k3⟩ := bOfY_s (n := n) hr.2.2.1.1 g3
              split at e
              next v E' ev =>
              rw [ev] at k2 k3
              cases e
              have hgd : d.getD x.toNatClampNeg .null = d[x.toNatClampNeg] := by
                rw [List.getD_eq_getElem?_getD, List.getElem?_eq_getElem h3]; rfl
              refine ⟨x, a, ws, d[x.toNatClampNeg], rfl, ha, ?_, bOne rfl k1 (bRl_mono k1 hr.1) ⟨k3, bRs_mono k1 hs2⟩ (bRS_ext k1 hr.2.2.1 k2) hr.2.2.2 (bFr.refl _ _)⟩
              simp only [amALd, h1, hgd, h4, bKy_s ek g3, and_self, if_true]
            · cases e
          · cases e
        · cases e
    · cases e
  · cases e
theorem bAldA_ok {pc t : Nat} : bOk n T W (bAldA T pc t) (fun ls st hp => (amALd t (bKp t) hp st).map (fun s => (pc, ls, s, hp))) := by
  intro ls st S L ρ cl cs hp e hr
  obtain ⟨x, a, ws, w, -, -, h1, h2⟩ := bAldA_k (W := W) e hr
  exact ⟨(pc, cl, w :: ws, hp), by dsimp only; rw [h1]; rfl, h2⟩
theorem bAldA_okI {pc : Nat} {sc : Option (List Int32)} (hn : n ≤ 999999) : bOk n T W (bAldA T pc 32) (fun ls st hp => match amSc sc st with
    | some s => some (pc, ls, s, hp)
    | none => (amALd 32 amIsI hp st).map (fun s => (pc, ls, s, hp))) := by
  intro ls st S L ρ cl cs hp e hr
  obtain ⟨x, a, ws, w, rfl, ha, h1, h2⟩ := bAldA_k (W := W) e hr
  refine ⟨(pc, cl, w :: ws, hp), ?_, h2⟩
  dsimp only
  rw [amSc_none (fun z => by unfold amS at z; omega)]
  dsimp only
  rw [show amIsI = bKp 32 from rfl, h1]
  rfl
noncomputable def bFno (F : bF) (l : List Nat) : Bool := match F with
  | [] => true
  | f :: r => (match lHas l f.1 with
    | true => false
    | false => bFno r l)
theorem lHas_t : ∀ {l : List Nat} {i : Nat}, i ∈ l → lHas l i = true
  | j :: r, i, h => by
    unfold lHas
    split
    · rfl
    · next e =>
      cases h with
      | head => simp at e
      | tail _ h => exact lHas_t h
theorem bFno_s : ∀ {F : bF} {l : List Nat}, bFno F l = true → ∀ f ∈ F, ∀ c ∈ l, ¬ f.1 = c
  | g :: r, l, h, f, hf, c, hc => by
    unfold bFno at h
    split at h
    · cases h
    · next e =>
      cases hf with
      | head => intro z; rw [z, lHas_t hc] at e; cases e
      | tail _ hf => exact bFno_s h f hf c hc
/-- a row written: what is written is of the row's type (or made to be a byte) -/
noncomputable def bAstA (T : Nat → Option bD) (W : List (Nat × Nat)) (pc t : Nat) (byt : Bool) (chk : List Nat → Bool) : bA := fun ls st S => match st with
  | v :: i :: .inr (.inr (.inr l)) :: r => (match bIv S.1 i with
    | some q => (match lAll (fun c => match bIn W c 999 with
        | true => (match bElt T true t q c with
          | some y => (match bKy t y with
            | true => (match byt with
              | true => (match bIsI v with
                | true => bYle (.inl (2147483520, 2147483775)) y
                | false => false)
              | false => bLe S.1 v y)
            | false => false)
          | none => false)
        | false => false) l with
      | true => (match bFno S.2.1 l with
        | true => (match v with
          | .inr (.inr (.inr m)) => (match chk m with
            | true => some [(pc, ls, r, S)]
            | false => none)
          | _ => some [(pc, ls, r, S)])
        | false => none)
      | false => none)
    | none => none)
  | _ => none
theorem bNarB_s (x : Int32) : ∃ z, amNarB (.int x) = .int z ∧ 2147483520 ≤ aOff z ∧ aOff z ≤ 2147483775 := by
  refine ⟨vp_nar .byte x, rfl, ?_⟩
  have h := aNarB_s (v := aFull) (w := .int x) (aFull_s x)
  obtain ⟨z, ez, h1, h2⟩ := h
  have ez : vp_nar .byte x = z := by cases ez; rfl
  rw [ez]
  exact bIn_off.mp ⟨h1, h2⟩
noncomputable def bGv (byt : Bool) : Value → Value := match byt with
  | true => amNarB
  | false => id
theorem bAstA_ok {pc t : Nat} {byt : Bool} {chk : List Nat → Bool} {p' : amH → Value → Bool} (hp' : ∀ (ρ : List Nat) (hp : amH) (v : bV) (y : bY) (w : Value), bHk n T hp → bR n ρ v w → bKy t y = true → (byt = false → bYr n y w ∧ ∃ E, bLe E v y = true) → (byt = true → ∃ x, w = .int x) → (∀ m, v = .inr (.inr (.inr m)) → chk m = true) → p' hp w = true) :
    bOk n T W (bAstA T W pc t byt chk) (fun ls st hp => (amASt t (p' hp) (bGv byt) hp st).map (fun q => (pc, ls, q.1, q.2))) := by
  intro ls st S L ρ cl cs hp e hr
  unfold bAstA at e
  split at e
  · next v i l r =>
    obtain ⟨w, ws, rfl, hv, hs⟩ := bRs_cons hr.2.1
    obtain ⟨w2, ws, rfl, hv2, hs2⟩ := bRs_cons hs
    obtain ⟨w3, ws, rfl, hv3, hs3⟩ := bRs_cons hs2
    obtain ⟨a, rfl, ha, hal⟩ := hv3
    split at e
    · next q eq =>
      obtain ⟨x, rfl, hx⟩ := bIv_s hr.2.2.1.1 eq hv2
      split at e
      · next ea =>
       split at e
       · next eF =>
        have h0 := lAll_m ea a hal
        have hL : L = [(pc, ls, r, S)] ∧ ∀ m, v = .inr (.inr (.inr m)) → chk m = true := by
          split at e
          · next m =>
            split at e
            · next ec => cases e; exact ⟨rfl, fun m' z => by cases z; exact ec⟩
            · cases e
          · next hne => cases e; exact ⟨rfl, fun m z => absurd z (hne m)⟩
        obtain ⟨rfl, hchk⟩ := hL
        split at h0
        · next eW =>
          split at h0
          · next y ey =>
            split at h0
            · next ek =>
              obtain ⟨D, d, hD, h1, h2, h3, h4, y2, h5, h6, h7⟩ := bElt_s ey hr.2.2.2 ha hx
              have h7 := h7 rfl
              subst h7
              have key : bYr n y2 (bGv byt w) ∧ (byt = false → bYr n y2 w ∧ ∃ E, bLe E v y2 = true) ∧ (byt = true → ∃ x, w = .int x) := by
                split at h0
                · split at h0
                  · next ei =>
                    obtain ⟨z, rfl⟩ := bIsI_s ei hv
                    obtain ⟨u, hu, hu2⟩ := bNarB_s z
                    refine ⟨?_, fun z => by (cases z), fun _ => ⟨z, rfl⟩⟩
                    show bYr n y2 (amNarB (.int z))
                    rw [hu]
                    exact bYle_s (x := .inl (2147483520, 2147483775)) h0 ⟨u, rfl, hu2⟩
                  · cases h0
                · have := bLe_s hr.2.2.1.1 h0 hv
                  exact ⟨this, fun _ => ⟨this, _, h0⟩, fun z => by (cases z)⟩
              have hpw := hp' ρ hp v y2 w hr.2.2.2 hv ek key.2.1 key.2.2 hchk
              refine ⟨(pc, cl, ws, hp.set a (t, d.set x.toNatClampNeg (bGv byt w))), ?_, bOne rfl (List.prefix_refl _) hr.1 hs3 ⟨hr.2.2.1.1, fun f hf => ?_, hr.2.2.1.2.2⟩ (bHk_set hr.2.2.2 hD (bHc_set h2 h5 key.1)) (bFr_set (d := (t, d)) h1 (bIn_all eW _))⟩
              · simp only [amASt, h1, h4, hpw, and_self, if_true, Option.map_some]
              · obtain ⟨u, g1, g2⟩ := hr.2.2.1.2.1 f hf
                refine ⟨u, ?_, g2⟩
                rw [bFld_set h1, if_neg (bFno_s eF f hf a hal)]
                exact g1
            · cases h0
          · cases h0
        · cases h0
       · cases e
      · cases e
    · cases e
  · cases e
noncomputable def bIsSn (T : Nat → Option bD) (m : List Nat) : Bool := lAll (fun c => match T c with
  | some D => Nat.beq D.1 6
  | none => false) m
noncomputable def bLenA (T : Nat → Option bD) (pc : Nat) : bA := fun ls st S => match st with
  | .inr (.inr (.inr l)) :: r => (match l with
    | [] => none
    | c :: l' => (match T c with
      | some D => (match Nat.ble D.2.1 100000 with
        | true => (match lAll (fun d => match T d with
            | some D' => (match Nat.ble 32 D'.1 with
              | true => (match Nat.ble D'.1 35 with
                | true => Nat.beq D'.2.1 D.2.1
                | false => false)
              | false => false)
            | none => false) (c :: l') with
          | true => some [(pc, ls, .inl (Nat.add D.2.1 2147483648) :: r, S)]
          | false => none)
        | false => none)
      | none => none))
  | _ => none
theorem amScLen_none {sc : Option (List Int32)} {o : Nat} {r : List Value} (h : ¬ o = amS) : amScLen sc (.ref o :: r) = none := by
  unfold amScLen
  cases sc <;> simp [h]
theorem bLenA_ok {pc : Nat} {sc : Option (List Int32)} (hn : n ≤ 999999) : bOk n T W (bLenA T pc) (fun ls st hp => match amScLen sc st with
    | some s => some (pc, ls, s, hp)
    | none => (amLen hp st).map (fun s => (pc, ls, s, hp))) := by
  intro ls st S L ρ cl cs hp e hr
  unfold bLenA at e
  split at e
  · next l r =>
    obtain ⟨w, ws, rfl, hv, hs⟩ := bRs_cons hr.2.1
    obtain ⟨a, rfl, ha, hal⟩ := hv
    split at e
    · cases e
    · next c l' =>
      split at e
      · next D eD =>
        split at e
        · next ek =>
          split at e
          · next ea =>
            cases e
            have h0 := lAll_m ea a hal
            split at h0
            · next D' eD' =>
              split at h0
              · next e1 =>
                split at h0
                · next e2 =>
                  have h0 := Nat.eq_of_beq_eq_true h0
                  obtain ⟨d, h1, h2⟩ := bHk_at hr.2.2.2 ha eD'
                  have hlen : d.2.length = D.2.1 := by rw [h2.2.1, h0]
                  have hx : aOff (Int32.ofNat d.2.length) = Nat.add D.2.1 2147483648 := by
                    obtain ⟨x, ex, x1, x2⟩ := a_ofNat (n := d.2.length) (by rw [hlen]; exact a_le ek)
                    cases ex
                    have := bIn_off.mp ⟨x1, x2⟩
                    rw [← hlen]
                    exact Nat.le_antisymm this.2 this.1
                  refine ⟨(pc, cl, .int (Int32.ofNat d.2.length) :: ws, hp), ?_, bOne rfl (List.prefix_refl _) hr.1 ⟨⟨_, rfl, hx⟩, hs⟩ hr.2.2.1 hr.2.2.2 (bFr.refl _ _)⟩
                  dsimp only
                  rw [amScLen_none (fun z => absurd (z ▸ ha : amS < n) (by unfold amS; omega))]
                  have g1 : 32 ≤ d.1 := by rw [h2.1]; exact a_le e1
                  have g2 : d.1 ≤ 35 := by rw [h2.1]; exact a_le e2
                  simp only [amLen, h1, g1, g2, and_self, if_true, Option.map_some]
                · cases h0
              · cases h0
            · cases h0
          · cases e
        · cases e
      · cases e
  · cases e
/-- a row copied into another -/
noncomputable def bCpT (T : Nat → Option bD) (W : List (Nat × Nat)) (p q r : Nat × Nat) (a0 a : Nat) : Bool := match T a0 with
  | some D0 => (match T a with
    | some D1 => (match D0.2.2 with
      | [y0] => (match D1.2.2 with
        | [y1] => (((Nat.beq D0.1 32 && Nat.beq D1.1 32) && (Nat.ble 2147483648 p.1 && Nat.ble 2147483648 q.1)) && (Nat.ble 2147483648 r.1 && (Nat.ble (Nat.add (bDn p.2) (bDn r.2)) D0.2.1 && Nat.ble (Nat.add (bDn q.2) (bDn r.2)) D1.2.1))) && (bYle y0 y1 && bIn W a 999)
        | _ => false)
      | _ => false)
    | none => false)
  | none => false
theorem bCpT_s {p q r : Nat × Nat} {a0 a : Nat} (h : bCpT T W p q r a0 a = true) : ∃ D0 D1 y0 y1, T a0 = some D0 ∧ T a = some D1 ∧ D0.2.2 = [y0] ∧ D1.2.2 = [y1] ∧ D0.1 = 32 ∧ D1.1 = 32 ∧ 2147483648 ≤ p.1 ∧ 2147483648 ≤ q.1 ∧ 2147483648 ≤ r.1 ∧ bDn p.2 + bDn r.2 ≤ D0.2.1 ∧ bDn q.2 + bDn r.2 ≤ D1.2.1 ∧ bYle y0 y1 = true ∧ bIn W a 999 = true := by
  unfold bCpT at h
  split at h
  · next D0 e0 =>
    split at h
    · next D1 e1 =>
      split at h
      · next y0 e2 =>
        split at h
        · next y1 e3 =>
          simp only [Bool.and_eq_true] at h
          obtain ⟨⟨⟨⟨c1, c2⟩, c3, c4⟩, c5, c6, c7⟩, c8, c9⟩ := h
          exact ⟨D0, D1, y0, y1, e0, e1, e2, e3, Nat.eq_of_beq_eq_true c1, Nat.eq_of_beq_eq_true c2, a_le c3, a_le c4, a_le c5, a_le c6, a_le c7, c8, c9⟩
        · cases h
      · cases h
    · cases h
  · cases h
noncomputable def bCpyA (T : Nat → Option bD) (W : List (Nat × Nat)) (pc : Nat) : bA := fun ls st S => match st with
  | k :: dp :: .inr (.inr (.inr l)) :: sp :: .inr (.inr (.inr l0)) :: r => (match bIv S.1 sp with
    | some p => (match bIv S.1 dp with
      | some q => (match bIv S.1 k with
        | some z => (match lAll (fun a0 => lAll (fun a => bCpT T W p q z a0 a) l) l0 with
          | true => (match bFno S.2.1 l with
            | true => (match Nat.ble (bCs r) 8 with
              | true => some [(pc, ls, r, S)]
              | false => none)
            | false => none)
          | false => none)
        | none => none)
      | none => none)
    | none => none)
  | _ => none
theorem bCpyA_ok {pc : Nat} {cf : amL → List Value → amH → Option amR} (hcf : ∀ ls st hp r, amCopy pc ls hp st = some (.inl (r, 0, 0)) → cf ls st hp = some r) : bOk n T W (bCpyA T W pc) cf := by
  intro ls st S L ρ cl cs hp e hr
  unfold bCpyA at e
  split at e
  · next k dp l sp l0 r =>
    obtain ⟨w1, ws, rfl, hv1, hs⟩ := bRs_cons hr.2.1
    obtain ⟨w2, ws, rfl, hv2, hs2⟩ := bRs_cons hs
    obtain ⟨w3, ws, rfl, hv3, hs3⟩ := bRs_cons hs2
    obtain ⟨w4, ws, rfl, hv4, hs4⟩ := bRs_cons hs3
    obtain ⟨w5, ws, rfl, hv5, hs5⟩ := bRs_cons hs4
    obtain ⟨a, rfl, ha, hal⟩ := hv3
    obtain ⟨a0, rfl, ha0, hal0⟩ := hv5
    split at e
    · next p ep =>
      split at e
      · next q eq =>
        split at e
        · next z ez =>
          split at e
          · next ea =>
            split at e
            · next eF =>
              split at e
              · next e8 =>
                cases e
                obtain ⟨xs, rfl, hxs⟩ := bIv_s hr.2.2.1.1 ep hv4
                obtain ⟨xd, rfl, hxd⟩ := bIv_s hr.2.2.1.1 eq hv2
                obtain ⟨xk, rfl, hxk⟩ := bIv_s hr.2.2.1.1 ez hv1
                obtain ⟨D0, D1, y0, y1, t0, t1, d0, d1, k0, k1, b1, b2, b3, b4, b5, b6, b7⟩ := bCpT_s (lAll_m (lAll_m ea a0 hal0) a hal)
                obtain ⟨c0, g0, hc0⟩ := bHk_at hr.2.2.2 ha0 t0
                obtain ⟨c1, g1, hc1⟩ := bHk_at hr.2.2.2 ha t1
                have nn : ∀ {x : Int32} {u : Nat × Nat}, aIn u.1 u.2 x → 2147483648 ≤ u.1 → ¬ x < 0 ∧ x.toNatClampNeg ≤ bDn u.2 := by
                  intro x u hx hu
                  have hx := bIn_off.mp hx
                  have ax := aOff_eq x
                  have b := bDn_eq u.2
                  have hxn : (x.toNatClampNeg : Int) = x.toInt := by
                    have : x.toNatClampNeg = x.toInt.toNat := rfl
                    rw [this]
                    omega
                  refine ⟨fun z => ?_, by omega⟩
                  have := Int32.lt_iff_toInt_lt.mp z
                  have z0 : (0 : Int32).toInt = 0 := by decide
                  omega
                obtain ⟨s1, s2⟩ := nn hxs b1
                obtain ⟨s3, s4⟩ := nn hxd b2
                obtain ⟨s5, s6⟩ := nn hxk b3
                have l0 : xs.toNatClampNeg + xk.toNatClampNeg ≤ c0.2.length := by rw [hc0.2.1]; omega
                have l1 : xd.toNatClampNeg + xk.toNatClampNeg ≤ c1.2.length := by rw [hc1.2.1]; omega
                have q0 : c0.1 = 32 := by rw [hc0.1, k0]
                have q1 : c1.1 = 32 := by rw [hc1.1, k1]
                have hsum : (ws.map fun v => v.category).sum ≤ 8 := by rw [bRs_cat hs5]; exact a_le e8
                have hdo : amCopy pc cl hp (.int xk :: .int xd :: .ref a :: .int xs :: .ref a0 :: ws) = some (.inl ((pc, cl, ws, hp.set a (32, c1.2.take xd.toNatClampNeg ++ ((c0.2.drop xs.toNatClampNeg).take xk.toNatClampNeg ++ c1.2.drop (xd.toNatClampNeg + xk.toNatClampNeg)))), 0, 0)) := by
                  simp only [amCopy, g0, g1]
                  rw [if_pos ⟨q0, q1, s1, s3, s5, l0, l1, hsum⟩]
                have hy0 : ∀ u ∈ c0.2, bYr n y1 u := by
                  intro u hu
                  obtain ⟨i, hi, e⟩ := List.getElem_of_mem hu
                  obtain ⟨y, g2, g3⟩ := hc0.2.2 i u (by rw [List.getElem?_eq_getElem hi, e])
                  unfold bDy at g2
                  rw [k0, d0] at g2
                  cases g2
                  exact bYle_s b6 g3
                have hy1 : ∀ u ∈ c1.2, bYr n y1 u := by
                  intro u hu
                  obtain ⟨i, hi, e⟩ := List.getElem_of_mem hu
                  obtain ⟨y, g2, g3⟩ := hc1.2.2 i u (by rw [List.getElem?_eq_getElem hi, e])
                  unfold bDy at g2
                  rw [k1, d1] at g2
                  cases g2
                  exact g3
                refine ⟨_, hcf _ _ _ _ hdo, bOne rfl (List.prefix_refl _) hr.1 hs5 ⟨hr.2.2.1.1, fun f hf => ?_, hr.2.2.1.2.2⟩ (bHk_set hr.2.2.2 t1 ⟨k1.symm, ?_, fun j u hu => ⟨y1, ?_, ?_⟩⟩) (fun i j hij => ?_)⟩
                · obtain ⟨u, g2, g3⟩ := hr.2.2.1.2.1 f hf
                  refine ⟨u, ?_, g3⟩
                  dsimp only
                  rw [bFld_set g1, if_neg (bFno_s eF f hf a hal)]
                  exact g2
                · have := hc1.2.1
                  simp only [List.length_append, List.length_take, List.length_drop]
                  omega
                · unfold bDy
                  rw [k1, d1]
                  rfl
                · have hm := List.mem_of_getElem? hu
                  rcases List.mem_append.mp hm with hm | hm
                  · exact hy1 _ (List.mem_of_mem_take hm)
                  · rcases List.mem_append.mp hm with hm | hm
                    · exact hy0 _ (List.mem_of_mem_drop (List.mem_of_mem_take hm))
                    · exact hy1 _ (List.mem_of_mem_drop hm)
                · dsimp only
                  rw [bFld_set g1]
                  split
                  · next z =>
                    subst z
                    rw [bIn_all b7] at hij
                    cases hij
                  · rfl
              · cases e
            · cases e
          · cases e
        · cases e
      · cases e
    · cases e
  · cases e
end BRW
end
/-! ##### 13.h.ball ##### -/
section
/-! ===== runs over invariants: all instructions that go on ===== -/
noncomputable def bYI : bY := .inl bFull
noncomputable def bYJ : bY := .inr (.inl 1)
noncomputable def bYD : bY := .inr (.inl 2)
theorem bYI_s {n : Nat} (x : Int32) : bYr n bYI (.int x) := ⟨x, rfl, Nat.zero_le _, bOff_le x⟩
theorem bYJ_s {n : Nat} (x : Int64) : bYr n bYJ (.long x) := Or.inl ⟨rfl, x, rfl⟩
theorem bYD_s {n : Nat} (x : UInt64) : bYr n bYD (.double x) := Or.inr (Or.inl ⟨Or.inl rfl, x, rfl, fun z => absurd rfl z, fun z => by cases z⟩)
noncomputable def bYF : bY := .inr (.inl 3)
theorem bYF_s {n : Nat} {x : UInt32} (h : FP.Core.decode FP.Core.b32 x.toNat ≠ .nan) : bYr n bYF (.float x) := Or.inr (Or.inr (Or.inl ⟨Or.inl rfl, x, rfl, h, fun z => by cases z⟩))
theorem bI2f_0 (x : Int32) : bT 3 (.float (FP.i2f x)) := Or.inr (Or.inr (Or.inl ⟨Or.inl rfl, _, rfl, fl_i2f x, fun z => by cases z⟩))
theorem bI2d_0 (x : Int32) : bT 6 (.double (FP.i2d x)) := Or.inr (Or.inl ⟨Or.inr (Or.inl rfl), _, rfl, fun _ => fl_i2d x, fun z => by cases z⟩)
theorem bI2_nz {x : Int32} (h1 : 1 ≤ x.toInt) (h2 : x.toInt ≤ 199) : flNz (FP.Core.decode FP.Core.b32 (FP.i2f x).toNat) = true ∧ flNz (FP.Core.decode FP.Core.b64 (FP.i2d x).toNat) = true := by
  obtain ⟨k, hk⟩ : ∃ k : Nat, x.toInt = (k : Int) := ⟨x.toInt.toNat, by omega⟩
  have hx : x = Int32.ofInt (k : Int) := by rw [← hk, Int32.ofInt_toInt]
  rw [hx]
  exact fl_nz ⟨k, by omega⟩ (by show k ≠ 0; omega)
theorem bI2f_1 (x : Int32) (h1 : 1 ≤ x.toInt) (h2 : x.toInt ≤ 199) : bT 5 (.float (FP.i2f x)) := Or.inr (Or.inr (Or.inl ⟨Or.inr rfl, _, rfl, fl_i2f x, fun _ => (bI2_nz h1 h2).1⟩))
theorem bI2d_1 (x : Int32) (h1 : 1 ≤ x.toInt) (h2 : x.toInt ≤ 199) : bT 7 (.double (FP.i2d x)) := Or.inr (Or.inl ⟨Or.inr (Or.inr rfl), _, rfl, fun _ => fl_i2d x, fun _ => (bI2_nz h1 h2).2⟩)
noncomputable def bTr (T : Nat → Option bD) (W : List (Nat × Nat)) (nL : Nat) (i : Instr) (a b pc : Nat) : Option bA :=
  match i with
  | .iconst k => some (bPush (pc + 1) (.inl (aOff (Int32.ofInt k))))
  | .bipush k => some (bPush (pc + 2) (.inl (aOff (Int8.ofInt k).toInt32)))
  | .sipush k => some (bPush (pc + 3) (.inl (aOff (Int16.ofInt k).toInt32)))
  | .lconst _ => some (bPush (pc + 1) (.inr (.inr (.inl 1))))
  | .dconst k => if k = 0 then some (bPush (pc + 1) (.inr (.inr (.inl 2)))) else none
  | .ldc _ => if b = 0 then some (bPush (pc + 2) (.inl (aOff (Int32.ofNat a)))) else some (bPush (pc + 2) (.inr (.inr (.inl (amK + a)))))
  | .ldc_w _ => if b = 0 then some (bPush (pc + 3) (.inl (aOff (Int32.ofNat a)))) else some (bPush (pc + 3) (.inr (.inr (.inl (amK + a)))))
  | .ldc2_w _ => some (bPush (pc + 3) (.inr (.inr (.inl 1))))
  | .iload k => some (bLdA (pc + 2) bIsI k)
  | .iload_n k => some (bLdA (pc + 1) bIsI k)
  | .lload k => some (bLdA (pc + 2) (bIs 1) k)
  | .lload_n k => some (bLdA (pc + 1) (bIs 1) k)
  | .dload k => some (bLdA (pc + 2) (bIs 2) k)
  | .dload_n k => some (bLdA (pc + 1) (bIs 2) k)
  | .aload k => some (bLdA (pc + 2) bIsA k)
  | .aload_n k => some (bLdA (pc + 1) bIsA k)
  | .istore k => some (bStA (pc + 2) bIsI nL k)
  | .istore_n k => some (bStA (pc + 1) bIsI nL k)
  | .lstore k => some (bStA2 (pc + 2) (bIs 1) nL k)
  | .lstore_n k => some (bStA2 (pc + 1) (bIs 1) nL k)
  | .dstore k => some (bStA2 (pc + 2) (bIs 2) nL k)
  | .astore k => some (bStA (pc + 2) bIsA nL k)
  | .astore_n k => some (bStA (pc + 1) bIsA nL k)
  | .iinc k c => some (bInc (pc + 3) nL k (aOff (Int32.ofInt c)))
  | .dup => some (bDup (pc + 1))
  | .dup2 => some (bDup2 (pc + 1))
  | .pop => some (bPop (pc + 1))
  | .iadd => some (bTwo (pc + 1) bAdd)
  | .isub => some (bTwo (pc + 1) bSub)
  | .imul => some (bTwo (pc + 1) (bBin bGmul))
  | .iand => some (bTwo (pc + 1) (bBin (bOfG (aGor (aGx (fun x y => x &&& y)) aGand))))
  | .ior => some (bTwo (pc + 1) (bBin (bOfG (aGor (aGx (fun x y => x ||| y)) aG15))))
  | .ixor => some (bTwo (pc + 1) (bBin (bOfG (aGor (aGx (fun x y => x ^^^ y)) (aGor aG15 aGxor)))))
  | .ishl => some (bTwo (pc + 1) (bBin bGshl))
  | .ishr => some (bTwo (pc + 1) (bBin (bOfG (aGor (aGx (fun x y => x >>> (y &&& 31))) aGshr))))
  | .iushr => some (bTwo (pc + 1) (bBin (bOfG (aGx (fun x y => (x.toUInt32 >>> (y.toUInt32 &&& Int32.toUInt32 31)).toInt32)))))
  | .idiv => some (bDvA (pc + 1) bGdiv)
  | .irem => some (bDvA (pc + 1) bGrem)
  | .ineg => some (bUn (pc + 1) bIsI bYI)
  | .i2b => some (bUn (pc + 1) bIsI bYI)
  | .i2l => some (bUn (pc + 1) bIsI bYJ)
  | .i2d => some (bI2 (pc + 1) 6 7)
  | .i2f => some (bI2 (pc + 1) 3 5)
  | .fdiv => some (bBi (pc + 1) (bIs 5) bIsF2 bYF)
  | .ddiv => some (bBi (pc + 1) (bIs 7) bIsD2 bYD)
  | .fconst k => if k = 0 then some (bPush (pc + 1) (.inr (.inr (.inl 3)))) else none
  | .l2i => some (bUn (pc + 1) (bIs 1) bYI)
  | .lneg => some (bUn (pc + 1) (bIs 1) bYJ)
  | .ladd => some (bBi (pc + 1) (bIs 1) (bIs 1) bYJ)
  | .lsub => some (bBi (pc + 1) (bIs 1) (bIs 1) bYJ)
  | .land => some (bBi (pc + 1) (bIs 1) (bIs 1) bYJ)
  | .lor => some (bBi (pc + 1) (bIs 1) (bIs 1) bYJ)
  | .lcmp => some (bBi (pc + 1) (bIs 1) (bIs 1) bYI)
  | .lshl => some (bBi (pc + 1) bIsI (bIs 1) bYJ)
  | .lshr => some (bBi (pc + 1) bIsI (bIs 1) bYJ)
  | .lushr => some (bBi (pc + 1) bIsI (bIs 1) bYJ)
  | .f2d => some (bUn (pc + 1) (bIs 3) bYD)
  | .goto _ => some (bGo a)
  | .ifCond c _ => some (bIfA c a (pc + 3))
  | .if_icmp c _ => some (bCmpA c a (pc + 3))
  | .ifnull _ => some (bNulA a (pc + 3))
  | .ifnonnull _ => some (bNulA (pc + 3) a)
  | .tableswitch d lo hi offs => some (bTabA pc d lo hi offs)
  | .getfield _ => some (bGetA T (pc + 3) a b)
  | .putfield _ => some (bPutA T W (pc + 3) a b (amFty a b))
  | .iaload => some (bAldA T (pc + 1) 32)
  | .laload => some (bAldA T (pc + 1) 33)
  | .baload => some (bAldA T (pc + 1) 34)
  | .aaload => some (bAldA T (pc + 1) 35)
  | .iastore => some (bAstA T W (pc + 1) 32 false (fun _ => true))
  | .lastore => some (bAstA T W (pc + 1) 33 false (fun _ => true))
  | .bastore => some (bAstA T W (pc + 1) 34 true (fun _ => true))
  | .aastore => some (bAstA T W (pc + 1) 35 false (bIsSn T))
  | .arraylength => some (bLenA T (pc + 1))
  | _ => none
section BTR
variable {n : Nat} {T : Nat → Option bD} {W : List (Nat × Nat)}
theorem bUI_ok {pc : Nat} {f : Int32 → Value} {y : bY} (h : ∀ x, bYr n y (f x)) : bOk n T W (bUn pc bIsI y) (fun ls st hp => (amI f st).map (fun s => (pc, ls, s, hp))) :=
  bUn_ok fun ρ v w hv hr => by
    obtain ⟨x, rfl⟩ := bIsI_s hv hr
    exact ⟨f x, h x, fun _ _ _ => rfl⟩
theorem bUJ_ok {pc : Nat} {f : Int64 → Value} {y : bY} (h : ∀ x, bYr n y (f x)) : bOk n T W (bUn pc (bIs 1) y) (fun ls st hp => (amJ f st).map (fun s => (pc, ls, s, hp))) :=
  bUn_ok fun ρ v w hv hr => by
    obtain ⟨x, rfl⟩ := bIs_J hv hr
    exact ⟨f x, h x, fun _ _ _ => rfl⟩
theorem bLL_ok {pc : Nat} {f : Int64 → Int64 → Value} {y : bY} (h : ∀ x z, bYr n y (f x z)) : bOk n T W (bBi pc (bIs 1) (bIs 1) y) (fun ls st hp => (amLL f st).map (fun s => (pc, ls, s, hp))) :=
  bBi_ok fun ρ v u w x hv hu hr hr2 => by
    obtain ⟨x1, rfl⟩ := bIs_J hv hr
    obtain ⟨x2, rfl⟩ := bIs_J hu hr2
    exact ⟨f x2 x1, h _ _, fun _ _ _ => rfl⟩
theorem bLI_ok {pc : Nat} {f : Int64 → Int32 → Int64} : bOk n T W (bBi pc bIsI (bIs 1) bYJ) (fun ls st hp => (amLI f st).map (fun s => (pc, ls, s, hp))) :=
  bBi_ok fun ρ v u w x hv hu hr hr2 => by
    obtain ⟨x1, rfl⟩ := bIsI_s hv hr
    obtain ⟨x2, rfl⟩ := bIs_J hu hr2
    exact ⟨_, bYJ_s _, fun _ _ _ => rfl⟩
theorem bCI_s {ρ : List Nat} (x : Int32) : bR n ρ (.inl (aOff x)) (.int x) := ⟨x, rfl, rfl⟩
theorem bTr_s (hn : n ≤ 999999) {sc : Option (List Int32)} {nL : Nat} {i : Instr} {a b pc : Nat} {act : bA} (h : bTr T W nL i a b pc = some act) : bOk n T W act (fun ls st hp => amStep sc nL i a b pc ls st hp) := by
  unfold bTr at h
  split at h
  · cases h; exact bPush_ok fun ρ => bCI_s _
  · cases h; exact bPush_ok fun ρ => bCI_s _
  · cases h; exact bPush_ok fun ρ => bCI_s _
  · cases h; exact bPush_ok fun ρ => bYJ_s (n := n) _
  · split at h
    · next e => cases h; subst e; simp only [amStep, if_true]; exact bPush_ok fun ρ => bYD_s (n := n) _
    · cases h
  · split at h
    · next e => cases h; simp only [amStep, e, if_true]; exact bPush_ok fun ρ => bCI_s _
    · next e =>
      cases h
      simp only [amStep, e, if_false]
      exact bPush_ok fun ρ => Or.inr (Or.inr (Or.inr (Or.inr ⟨Nat.le_add_right _ _, rfl⟩)))
  · split at h
    · next e => cases h; simp only [amStep, e, if_true]; exact bPush_ok fun ρ => bCI_s _
    · next e =>
      cases h
      simp only [amStep, e, if_false]
      exact bPush_ok fun ρ => Or.inr (Or.inr (Or.inr (Or.inr ⟨Nat.le_add_right _ _, rfl⟩)))
  · cases h; exact bPush_ok fun ρ => bYJ_s (n := n) _
  · cases h; exact bLdA_ok bKd_I
  · cases h; exact bLdA_ok bKd_I
  · cases h; exact bLdA_ok bKd_J
  · cases h; exact bLdA_ok bKd_J
  · cases h; exact bLdA_ok bKd_D
  · cases h; exact bLdA_ok bKd_D
  · cases h; exact bLdA_ok bKd_A
  · cases h; exact bLdA_ok bKd_A
  · cases h; exact bStA_ok bKd_I
  · cases h; exact bStA_ok bKd_I
  · cases h; exact bStA2_ok bKd_J
  · cases h; exact bStA2_ok bKd_J
  · cases h; exact bStA2_ok bKd_D
  · cases h; exact bStA_ok bKd_A
  · cases h; exact bStA_ok bKd_A
  · cases h; exact bInc_ok
  · cases h; exact bDup_ok fun ls v r hp e => by simp only [amStep, e, if_true]
  · cases h; exact bDup2_ok fun ls v u r hp e => by simp only [amStep, e, and_self, if_true]
  · cases h; exact bPop_ok fun ls v r hp e => by simp only [amStep, e, if_true]
  · cases h; exact bTwo_ok bTok_add
  · cases h; exact bTwo_ok bTok_sub
  · cases h; exact bTwo_ok (bTok_bin bGmul_ok)
  · cases h; exact bTwo_ok (bTok_bin (bOfG_ok (aGor_ok (aGx_ok _) aGand_ok)))
  · cases h; exact bTwo_ok (bTok_bin (bOfG_ok (aGor_ok (aGx_ok _) aG15_or)))
  · cases h; exact bTwo_ok (bTok_bin (bOfG_ok (aGor_ok (aGx_ok _) (aGor_ok aG15_xor aGxor_ok))))
  · cases h; exact bTwo_ok (bTok_bin bGshl_ok)
  · cases h; exact bTwo_ok (bTok_bin (bOfG_ok (aGor_ok (aGx_ok _) aGshr_ok)))
  · cases h; exact bTwo_ok (bTok_bin (bOfG_ok (aGx_ok _)))
  · cases h; exact bDvA_ok bGdiv_ok
  · cases h; exact bDvA_ok bGrem_ok
  · cases h; exact bUI_ok fun x => bYI_s _
  · cases h; exact bUI_ok fun x => bYI_s _
  · cases h; exact bUI_ok fun x => bYJ_s _
  · cases h; exact bI2_ok bI2d_0 bI2d_1
  · cases h; exact bI2_ok bI2f_0 bI2f_1
  · cases h
    refine bBi_ok fun ρ v u w x hv hu hr hr2 => ?_
    obtain ⟨x1, rfl, g1⟩ := bIs_F5 hv hr
    obtain ⟨x2, rfl, g2⟩ := bIsF2_s hu hr2
    obtain ⟨g3, g4⟩ := fl_fdiv g2 g1
    exact ⟨_, bYF_s g4, fun cl r hp => by simp only [amStep, g3, if_true]⟩
  · cases h
    refine bBi_ok fun ρ v u w x hv hu hr hr2 => ?_
    obtain ⟨x1, rfl, g1⟩ := bIs_D7 hv hr
    obtain ⟨x2, rfl, g2⟩ := bIsD2_s hu hr2
    exact ⟨_, bYD_s (FP.ddiv x2 x1), fun cl r hp => by simp only [amStep, fl_ddiv g2 g1, if_true]⟩
  · split at h
    · next e => cases h; subst e; simp only [amStep, if_true]; exact bPush_ok fun ρ => bYF_s (n := n) (by decide)
    · cases h
  · cases h; exact bUJ_ok fun x => bYI_s _
  · cases h; exact bUJ_ok fun x => bYJ_s _
  · cases h; exact bLL_ok fun x z => bYJ_s _
  · cases h; exact bLL_ok fun x z => bYJ_s _
  · cases h; exact bLL_ok fun x z => bYJ_s _
  · cases h; exact bLL_ok fun x z => bYJ_s _
  · cases h; exact bLL_ok fun x z => bYI_s _
  · cases h; exact bLI_ok
  · cases h; exact bLI_ok
  · cases h; exact bLI_ok
  · cases h
    refine bUn_ok fun ρ v w hv hr => ?_
    obtain ⟨z, rfl, hz⟩ := bIs_F hv hr
    exact ⟨_, bYD_s (FP.f2d z), fun cl r hp => by simp only [amStep, fl_f2d hz, if_true]⟩
  · cases h; exact bGo_ok
  · cases h; exact bIfA_ok
  · cases h; exact bCmpA_ok
  · cases h; exact bNulA_ok fun ls o r hp => rfl
  · cases h; exact bNulA_ok fun ls o r hp => rfl
  · cases h; exact bTabA_ok
  · cases h; exact bGetA_ok
  · cases h; exact bPutA_ok
  · cases h; exact bAldA_okI hn
  · cases h; exact bAldA_ok
  · cases h; exact bAldA_ok
  · cases h; exact bAldA_ok
  · cases h; exact bAstA_ok (p' := fun _ => amIsI) (fun ρ hp v y w _ _ hk hw hw2 _ => bKy_s (t := 32) hk (hw rfl).1)
  · cases h
    exact bAstA_ok (p' := fun _ => amIsJ) (fun ρ hp v y w _ _ hk hw hw2 _ => bKy_s (t := 33) hk (hw rfl).1)
  · cases h; exact bAstA_ok (p' := fun _ => amIsI) (fun ρ hp v y w _ _ hk hw hw2 _ => by obtain ⟨x, rfl⟩ := hw2 rfl; rfl)
  · cases h
    refine bAstA_ok (p' := amIsSn) (fun ρ hp v y w hH hv hk hw hw2 hm => ?_)
    obtain ⟨h1, E, h2⟩ := hw rfl
    match y, hk, h1, h2 with
    | .inl q, hk, _, _ => cases hk
    | .inr (.inl s), hk, _, _ => cases hk
    | .inr (.inr l), hk, _, h2 =>
      match v, hv, h2, hm with
      | .inr (.inr (.inr m)), ⟨i, e, hi, him⟩, _, hm =>
        subst e
        have h3 := lAll_m (hm m rfl) i him
        split at h3
        · next D eD =>
          obtain ⟨d, g1, g2⟩ := bHk_at hH hi eD
          have h4 : d.1 = 6 := by rw [g2.1]; exact Nat.eq_of_beq_eq_true h3
          simp only [amIsSn, g1, h4, decide_true]
        · cases h3
      | .inl k, _, h2, _ => cases h2
      | .inr (.inl q), _, h2, _ => cases h2
      | .inr (.inr (.inl q)), _, h2, _ => cases h2
  · cases h; exact bLenA_ok hn
  · cases h
end BTR
end
