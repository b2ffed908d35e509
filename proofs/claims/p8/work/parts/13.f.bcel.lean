/-! ===== runs over invariants: cells read and written ===== -/
section BHP
variable {n : Nat} {T : Nat → Option bD} {W : List (Nat × Nat)}
/-- a field's value as it is known -/
def bFget (F : bF) (c k : Nat) : Option bV := match F with
  | [] => none
  | f :: r => (match Nat.beq f.1 c with
    | true => (match Nat.beq f.2.1 k with
      | true => some f.2.2
      | false => bFget r c k)
    | false => bFget r c k)
theorem bFget_s : ∀ {F : bF} {c k : Nat} {v : bV}, bFget F c k = some v → (c, k, v) ∈ F
  | f :: r, c, k, v, h => by
    unfold bFget at h
    split at h
    · next e1 =>
      split at h
      · next e2 =>
        cases h
        rw [← Nat.eq_of_beq_eq_true e1, ← Nat.eq_of_beq_eq_true e2]
        exact List.mem_cons_self
      · exact List.mem_cons_of_mem _ (bFget_s h)
    · exact List.mem_cons_of_mem _ (bFget_s h)
def bFdel (F : bF) (c k : Nat) : bF := match F with
  | [] => []
  | f :: r => (match Nat.beq f.1 c with
    | true => (match Nat.beq f.2.1 k with
      | true => bFdel r c k
      | false => f :: bFdel r c k)
    | false => f :: bFdel r c k)
theorem bFdel_s : ∀ {F : bF} {c k : Nat} {f : Nat × Nat × bV}, f ∈ bFdel F c k → f ∈ F ∧ ¬ (f.1 = c ∧ f.2.1 = k)
  | g :: r, c, k, f, h => by
    unfold bFdel at h
    split at h
    · next e1 =>
      split at h
      · exact ⟨List.mem_cons_of_mem _ (bFdel_s h).1, (bFdel_s h).2⟩
      · next e2 =>
        cases h with
        | head => exact ⟨List.mem_cons_self, fun z => by rw [z.2] at e2; simp at e2⟩
        | tail _ h => exact ⟨List.mem_cons_of_mem _ (bFdel_s h).1, (bFdel_s h).2⟩
    · next e1 =>
      cases h with
      | head => exact ⟨List.mem_cons_self, fun z => by rw [z.1] at e1; simp at e1⟩
      | tail _ h => exact ⟨List.mem_cons_of_mem _ (bFdel_s h).1, (bFdel_s h).2⟩
def bFdels (F : bF) : List Nat → Nat → bF
  | [], _ => F
  | c :: l, k => bFdels (bFdel F c k) l k
theorem bFdels_s : ∀ {l : List Nat} {F : bF} {k : Nat} {f : Nat × Nat × bV}, f ∈ bFdels F l k → f ∈ F ∧ ∀ c ∈ l, ¬ (f.1 = c ∧ f.2.1 = k)
  | [], F, k, f, h => ⟨h, fun _ z => by cases z⟩
  | c :: l, F, k, f, h => by
    obtain ⟨h1, h2⟩ := bFdels_s (l := l) (F := bFdel F c k) h
    obtain ⟨h3, h4⟩ := bFdel_s h1
    refine ⟨h3, fun d hd => ?_⟩
    cases hd with
    | head => exact h4
    | tail _ hd => exact h2 d hd
/-- a field's type at a cell of the class ci -/
def bFt (T : Nat → Option bD) (ci k c : Nat) : Option bY := match T c with
  | some D => (match Nat.beq D.1 ci with
    | true => (match Nat.ble 32 D.1 with
      | true => none
      | false => (match Nat.ble (Nat.add k 1) D.2.1 with
        | true => lAt D.2.2 k
        | false => none))
    | false => none)
  | none => none
theorem bFt_s {ci k c : Nat} {y : bY} (h : bFt T ci k c = some y) {hp : amH} (hk : bHk n T hp) (hc : c < n) : ci < 32 ∧ ∃ D d, T c = some D ∧ hp[c]? = some (ci, d) ∧ bHc n D (ci, d) ∧ bDy D k = some y ∧ k < d.length := by
  unfold bFt at h
  split at h
  · next D e =>
    split at h
    · next e1 =>
      split at h
      · cases h
      · next e2 =>
        split at h
        · next e4 =>
          have e1 := Nat.eq_of_beq_eq_true e1
          have e3 := a_nle e2
          obtain ⟨d, h1, h2⟩ := bHk_at hk hc e
          obtain ⟨t, d⟩ := d
          have h3 : t = D.1 := h2.1
          subst h3
          subst e1
          refine ⟨e3, D, d, e, h1, h2, ?_, ?_⟩
          · unfold bDy
            rw [e2]
            exact h
          · have h5 : d.length = D.2.1 := h2.2.1
            rw [h5]
            exact a_lt1 e4
        · cases h
    · cases h
  · cases h
def bGetA (T : Nat → Option bD) (pc ci k : Nat) : bA := fun ls st S => match st with
  | .inr (.inr (.inr l)) :: r => (match l with
    | [] => none
    | c :: l' => (match bFt T ci k c with
      | none => none
      | some y => (match l' with
        | [] => (match bFget S.2.1 c k with
          | some v => some [(pc, ls, v :: r, S)]
          | none => (match bOfY S.1 y with
            | (v, E') => some [(pc, ls, v :: r, E', (c, k, v) :: S.2.1, S.2.2)]))
        | _ :: _ => (match lAll (fun d => match bFt T ci k d with
            | some y' => bYle y' y
            | none => false) l' with
          | true => (match bOfY S.1 y with
            | (v, E') => some [(pc, ls, v :: r, E', S.2)])
          | false => none))))
  | _ => none
theorem bGetA_ok {pc ci k : Nat} : bOk n T W (bGetA T pc ci k) (fun ls st hp => (amFGet ci k hp st).map (fun s => (pc, ls, s, hp))) := by
  intro ls st S L ρ cl cs hp e hr
  unfold bGetA at e
  split at e
  · next l r =>
    obtain ⟨w, ws, rfl, hv, hs⟩ := bRs_cons hr.2.1
    obtain ⟨i, rfl, hi, hil⟩ := hv
    split at e
    · cases e
    · next c l' =>
      split at e
      · cases e
      · next y ey =>
        have key : ∀ y', bFt T ci k i = some y' → ∃ d u, hp[i]? = some (ci, d) ∧ d[k]? = some u ∧ bYr n y' u ∧ (amFGet ci k hp (.ref i :: ws)).map (fun s => (pc, cl, s, hp)) = some (pc, cl, u :: ws, hp) := by
          intro y' ey'
          obtain ⟨h0, D, d, h1, h2, h3, h4, h5⟩ := bFt_s ey' hr.2.2.2 hi
          obtain ⟨y2, g1, g2⟩ := h3.2.2 k _ (List.getElem?_eq_getElem h5)
          rw [h4] at g1
          cases g1
          refine ⟨d, d[k], h2, List.getElem?_eq_getElem h5, g2, ?_⟩
          simp only [amFGet, h2, h0, and_self, if_true, List.getElem?_eq_getElem h5, Option.map_some]
        split at e
        · have hic : i = c := by simpa using hil
          subst hic
          obtain ⟨d, u, k1, k2, k3, k4⟩ := key y ey
          split at e
          · next v ev =>
            cases e
            obtain ⟨u', g1, g2⟩ := hr.2.2.1.2.1 _ (bFget_s ev)
            have hu : u' = u := by
              simp only [bFld, k1, k2] at g1
              exact (Option.some.inj g1).symm
            subst hu
            exact ⟨_, k4, bOne rfl (List.prefix_refl _) hr.1 ⟨g2, hs⟩ hr.2.2.1 hr.2.2.2 (bFr.refl _ _)⟩
          · obtain ⟨ρ', h1, h2, h3⟩ := bOfY_s (n := n) hr.2.2.1.1 k3
            split at e
            next v E' ev =>
            rw [ev] at h2 h3
            cases e
            have h4 := bRS_ext h1 hr.2.2.1 h2
            refine ⟨_, k4, bOne rfl h1 (bRl_mono h1 hr.1) ⟨h3, bRs_mono h1 hs⟩ ⟨h4.1, fun f hf => ?_, h4.2.2⟩ hr.2.2.2 (bFr.refl _ _)⟩
            cases hf with
            | head => exact ⟨u, by simp only [bFld, k1, k2], h3⟩
            | tail _ hf => exact h4.2.1 f hf
        · next c2 l2 =>
          split at e
          · next ea =>
            have : ∃ y', bFt T ci k i = some y' ∧ ∀ w, bYr n y' w → bYr n y w := by
              cases hil with
              | head => exact ⟨y, ey, fun _ z => z⟩
              | tail _ hil =>
                have := lAll_m ea i hil
                split at this
                · next y' e' => exact ⟨y', e', fun _ z => bYle_s this z⟩
                · cases this
            obtain ⟨y', e1, e2⟩ := this
            obtain ⟨d, u, k1, k2, k3, k4⟩ := key y' e1
            obtain ⟨ρ', h1, h2, h3⟩ := bOfY_s (n := n) hr.2.2.1.1 (e2 _ k3)
            split at e
            next v E' ev =>
            rw [ev] at h2 h3
            cases e
            exact ⟨_, k4, bOne rfl h1 (bRl_mono h1 hr.1) ⟨h3, bRs_mono h1 hs⟩ (bRS_ext h1 hr.2.2.1 h2) hr.2.2.2 (bFr.refl _ _)⟩
          · cases e
  · cases e
def bFits (ty : FieldType) (E : bE) (v : bV) : Bool := match ty with
  | .int => bIsI v
  | .boolean => (match bIv E v with
    | some q => (match Nat.ble 2147483648 q.1 with
      | true => Nat.ble q.2 2147483649
      | false => false)
    | none => false)
  | .long => bIs 1 v
  | .object _ => (match v with
    | .inr (.inr (.inr _)) => true
    | _ => false)
  | .array _ => (match v with
    | .inr (.inr (.inr _)) => true
    | _ => false)
  | _ => false
theorem bBool {x : Int32} (h1 : 2147483648 ≤ aOff x) (h2 : aOff x ≤ 2147483649) : x = 0 ∨ x = 1 := by
  have h := aOff_eq x
  rcases (show x.toInt = 0 ∨ x.toInt = 1 by omega) with z | z
  · exact Or.inl (Int32.toInt_inj.mp (by rw [z]; rfl))
  · exact Or.inr (Int32.toInt_inj.mp (by rw [z]; rfl))
theorem bFits_s {ρ : List Nat} {E : bE} (hE : bRE ρ E) {ty : FieldType} {v : bV} {w : Value} (h : bFits ty E v = true) (hv : bR n ρ v w) : narrow ty w = w ∧ fits ty w = true := by
  unfold bFits at h
  split at h
  · obtain ⟨x, rfl⟩ := bIsI_s h hv; exact ⟨rfl, rfl⟩
  · split at h
    · next q eq =>
      split at h
      · next e1 =>
        obtain ⟨x, rfl, hx⟩ := bIv_s hE eq hv
        have hx := bIn_off.mp hx
        rcases bBool (x := x) (Nat.le_trans (a_le e1) hx.1) (Nat.le_trans hx.2 (a_le h)) with rfl | rfl
        · exact ⟨by decide, by decide⟩
        · exact ⟨by decide, by decide⟩
      · cases h
    · cases h
  · obtain ⟨x, rfl⟩ := bIs_J h hv; exact ⟨rfl, rfl⟩
  · split at h
    · obtain ⟨i, rfl, -⟩ := hv; exact ⟨rfl, rfl⟩
    · cases h
  · split at h
    · obtain ⟨i, rfl, -⟩ := hv; exact ⟨rfl, rfl⟩
    · cases h
  · cases h
def bPutA (T : Nat → Option bD) (W : List (Nat × Nat)) (pc ci k : Nat) (ty : FieldType) : bA := fun ls st S => match st with
  | v :: .inr (.inr (.inr l)) :: r => (match bFits ty S.1 v with
    | true => (match lAll (fun c => match bIn W c k with
        | true => (match bFt T ci k c with
          | some y => bLe S.1 v y
          | none => false)
        | false => false) l with
      | true => (match l with
        | [c] => some [(pc, ls, r, S.1, (c, k, v) :: bFdel S.2.1 c k, S.2.2)]
        | _ => some [(pc, ls, r, S.1, bFdels S.2.1 l k, S.2.2)])
      | false => none)
    | false => none)
  | _ => none
theorem bPutA_ok {pc ci k : Nat} {ty : FieldType} : bOk n T W (bPutA T W pc ci k ty) (fun ls st hp => (amFSet ci k ty hp st).map (fun q => (pc, ls, q.1, q.2))) := by
  intro ls st S L ρ cl cs hp e hr
  unfold bPutA at e
  split at e
  · next v l r =>
    obtain ⟨w, ws, rfl, hv, hs⟩ := bRs_cons hr.2.1
    obtain ⟨w2, ws, rfl, hv2, hs2⟩ := bRs_cons hs
    obtain ⟨i, rfl, hi, hil⟩ := hv2
    split at e
    · next ef =>
      split at e
      · next ea =>
        have ha := lAll_m ea i hil
        split at ha
        · next eW =>
          split at ha
          · next y ey =>
            obtain ⟨h0, D, d, h1, h2, h3, h4, h5⟩ := bFt_s ey hr.2.2.2 hi
            obtain ⟨f1, f2⟩ := bFits_s hr.2.2.1.1 ef hv
            have hset := bHk_set hr.2.2.2 h1 (bHc_set h3 h4 (bLe_s hr.2.2.1.1 ha hv))
            have hfr : bFr W hp (hp.set i (ci, d.set k w)) := bFr_set (d := (ci, d)) h2 eW
            have hcf : (amFSet ci k ty hp (w :: .ref i :: ws)).map (fun q => (pc, cl, q.1, q.2)) = some (pc, cl, ws, hp.set i (ci, d.set k w)) := by
              simp only [amFSet, h2, h0, h5, f1, f2, and_self, if_true, Option.map_some]
            have hold : ∀ f : Nat × Nat × bV, f ∈ S.2.1 → ¬ (f.1 = i ∧ f.2.1 = k) → ∃ u, bFld (hp.set i (ci, d.set k w)) f.1 f.2.1 = some u ∧ bR n ρ f.2.2 u := by
              intro f hf hne
              obtain ⟨u, g1, g2⟩ := hr.2.2.1.2.1 f hf
              refine ⟨u, ?_, g2⟩
              rw [bFld_set h2]
              split
              · next hi2 =>
                have hk : ¬ k = f.2.1 := fun z => hne ⟨hi2, z.symm⟩
                rw [List.getElem?_set_ne hk]
                rw [hi2] at g1
                simp only [bFld, h2] at g1
                exact g1
              · exact g1
            split at e
            · next c =>
              cases e
              have hic : i = c := by simpa using hil
              subst hic
              refine ⟨_, hcf, bOne rfl (List.prefix_refl _) hr.1 hs2 ⟨hr.2.2.1.1, fun f hf => ?_, hr.2.2.1.2.2⟩ hset hfr⟩
              cases hf with
              | head =>
                refine ⟨w, ?_, hv⟩
                rw [bFld_set h2, if_pos rfl]
                exact List.getElem?_set_self h5
              | tail _ hf => exact hold f (bFdel_s hf).1 (bFdel_s hf).2
            · cases e
              refine ⟨_, hcf, bOne rfl (List.prefix_refl _) hr.1 hs2 ⟨hr.2.2.1.1, fun f hf => ?_, hr.2.2.1.2.2⟩ hset hfr⟩
              exact hold f (bFdels_s hf).1 ((bFdels_s hf).2 i hil)
          · cases ha
        · cases ha
      · cases e
    · cases e
  · cases e
/-! rows -/
def bDn (a : Nat) : Nat := Nat.sub a 2147483648
theorem bDn_eq (a : Nat) : bDn a = a - 2147483648 := rfl
/-- the type of what stands in a row of the kind t at places within q; wr: to be written -/
def bRowQ (wr : Bool) (q : Nat × Nat) (l : List bY) : Option bY := match l with
  | [] => none
  | [y] => some y
  | y :: z :: zs => (match Nat.beq q.1 q.2 with
    | true => lAt (z :: zs) (bDn q.1)
    | false => (match wr with
      | true => none
      | false => (match lAll (fun u => bYle u y) (z :: zs) with
        | true => some y
        | false => none)))
def bRng (q : Nat × Nat) (k : Nat) : Bool := Nat.ble 2147483648 q.1 && Nat.ble (Nat.add (bDn q.2) 1) k
theorem bRng_s {q : Nat × Nat} {k : Nat} (h : bRng q k = true) : 2147483648 ≤ q.1 ∧ q.2 - 2147483648 < k := by
  unfold bRng at h
  rw [Bool.and_eq_true] at h
  have h2 := a_lt1 h.2
  rw [bDn_eq] at h2
  exact ⟨a_le h.1, h2⟩
def bElt (T : Nat → Option bD) (wr : Bool) (t : Nat) (q : Nat × Nat) (c : Nat) : Option bY := match T c with
  | some D => (match Nat.beq D.1 t with
    | true => (match Nat.ble 32 D.1 with
      | true => (match bRng q D.2.1 with
        | true => bRowQ wr q D.2.2
        | false => none)
      | false => none)
    | false => none)
  | none => none
theorem lAt_mem {α : Type} {l : List α} {i : Nat} {v : α} (h : lAt l i = some v) : v ∈ l := by
  rw [lAt_eq] at h
  exact List.mem_of_getElem? h
theorem bRowQ_s {wr : Bool} {q : Nat × Nat} {l : List bY} {y : bY} (h : bRowQ wr q l = some y) {i : Nat} (h1 : bDn q.1 ≤ i) (h2 : i ≤ bDn q.2) {y' : bY} (hy : bRow l i = some y') : (∀ w, bYr n y' w → bYr n y w) ∧ (wr = true → y' = y) := by
  unfold bRowQ at h
  unfold bRow at hy
  split at h
  · cases h
  · cases h
    cases hy
    exact ⟨fun _ z => z, fun _ => rfl⟩
  · dsimp only at hy
    split at h
    · next e =>
      have e := Nat.eq_of_beq_eq_true e
      rw [← e] at h2
      have : i = bDn q.1 := Nat.le_antisymm h2 h1
      rw [this, h] at hy
      cases hy
      exact ⟨fun _ z => z, fun _ => rfl⟩
    · split at h
      · cases h
      · split at h
        · next ea =>
          cases h
          exact ⟨fun w z => bYle_s (lAll_m ea y' (lAt_mem hy)) z, fun z => by cases z⟩
        · cases h
theorem bElt_s {wr : Bool} {t c : Nat} {q : Nat × Nat} {y : bY} (h : bElt T wr t q c = some y) {hp : amH} (hk : bHk n T hp) (hc : c < n) {x : Int32} (hx : aIn q.1 q.2 x) :
    ∃ D d, T c = some D ∧ hp[c]? = some (t, d) ∧ bHc n D (t, d) ∧ x.toNatClampNeg < d.length ∧ amIn x d.length = true ∧ ∃ y', bDy D x.toNatClampNeg = some y' ∧ (∀ w, bYr n y' w → bYr n y w) ∧ (wr = true → y' = y) := by
  unfold bElt at h
  split at h
  · next D e =>
    split at h
    · next e1 =>
      split at h
      · next e2 =>
        split at h
        · next e3 =>
            have e1 := Nat.eq_of_beq_eq_true e1
            obtain ⟨e3, e4⟩ := bRng_s e3
            obtain ⟨d, h1, h2⟩ := bHk_at hk hc e
            obtain ⟨t', d⟩ := d
            have h3 : t' = D.1 := h2.1
            subst h3
            subst e1
            have hlen : d.length = D.2.1 := h2.2.1
            have hx := bIn_off.mp hx
            have ax := aOff_eq x
            have hxn : (x.toNatClampNeg : Int) = x.toInt := by
              have : x.toNatClampNeg = x.toInt.toNat := rfl
              rw [this]
              omega
            have b1 := bDn_eq q.1
            have b2 := bDn_eq q.2
            have hlt : x.toNatClampNeg < d.length := by omega
            have hin : amIn x d.length = true := by
              refine decide_eq_true ?_
              rintro (z | z)
              · have := Int32.lt_iff_toInt_lt.mp z
                have z0 : (0 : Int32).toInt = 0 := by decide
                omega
              · omega
            obtain ⟨y2, g1, g2⟩ := h2.2.2 x.toNatClampNeg _ (List.getElem?_eq_getElem hlt)
            have g3 := g1
            unfold bDy at g1
            rw [e2] at g1
            obtain ⟨z1, z2⟩ := bRowQ_s h (i := x.toNatClampNeg) (by omega) (by omega) g1
            exact ⟨D, d, e, h1, h2, hlt, hin, y2, g3, z1, z2⟩
        · cases h
      · cases h
    · cases h
  · cases h
end BHP
