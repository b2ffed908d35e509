/-! ===== cycles of a length ===== -/
/-- how many cycles of two points have a length -/
def cyN (V : Nat) (T : sT) (L : Int) (a b n : Nat) : Nat := sm (fun x => iv (cyB T a b x = true ∧ ((cyL T a b x : Nat) : Int) = L)) n
theorem cyN_le {V : Nat} {T : sT} {L : Int} {a b : Nat} : ∀ n, cyN V T L a b n ≤ n
  | 0 => Nat.le_refl _
  | n + 1 => by
    have h1 := cyN_le (V := V) (T := T) (L := L) (a := a) (b := b) n
    have h2 : iv (cyB T a b n = true ∧ ((cyL T a b n : Nat) : Int) = L) ≤ 1 := iv_le
    show cyN V T L a b n + iv (cyB T a b n = true ∧ ((cyL T a b n : Nat) : Int) = L) ≤ n + 1
    omega
theorem cP_smL {h : Nat → Bool} : ∀ L : List Nat, L.countP h = sm (fun q => iv (h (L.getD q 0) = true)) L.length := by
  intro L
  induction L using List.reverseRecOn with
  | nil => rfl
  | append_singleton L x ih =>
    rw [List.countP_append, List.length_append, List.length_singleton, ih]
    show _ = sm (fun q => iv (h ((L ++ [x]).getD q 0) = true)) L.length + iv (h ((L ++ [x]).getD L.length 0) = true)
    rw [sm_ext (g := fun q => iv (h (L.getD q 0) = true)) L.length (fun i hi => by rw [gd_app hi]), gd_end]
    congr 1
    by_cases g : h x = true
    · rw [iv_t g]; simp [g]
    · rw [iv_f g]; simp [g]
theorem cyN_S {V : Nat} {T : sT} {L : Int} {a b n : Nat} : sm (fun q => iv (((cyL T a b ((cyS T a b n).getD q 0) : Nat) : Int) = L)) (cyS T a b n).length = cyN V T L a b n := by
  have e := cP_smL (h := fun x => decide (((cyL T a b x : Nat) : Int) = L)) (cyS T a b n)
  have e2 := fL_cP (B := cyB T a b) (h := fun x => decide (((cyL T a b x : Nat) : Int) = L)) n
  unfold cyN
  rw [sm_ext (g := fun i => iv (cyB T a b i = true ∧ decide (((cyL T a b i : Nat) : Int) = L) = true)) n (fun i _ => iv_eq (by rw [decide_eq_true_iff])), ← e2, e]
  exact sm_ext _ (fun i _ => iv_eq (by rw [decide_eq_true_iff]))
theorem dg_leC {f : Nat → Nat} (h : ∀ i, f i ≤ 1) : ∀ n, sm f n ≤ n
  | 0 => Nat.le_refl _
  | n + 1 => by
    have h1 := dg_leC h n
    have h2 := h n
    show sm f n + f n ≤ n + 1
    omega
theorem u42 : bUp 0 am_m42.1 = true := by decide +kernel
theorem l42E {d a b V : Nat} {T : sT} {hp : amH} {R : xQ} {wl : Int32} (hT : sOk V T) (hH : bHk 84 bTT hp) (hC : cyP hp T a b V) (aV : a < V) (bV : b < V) (hab : ¬ a = b)
    (hR : ∀ z : Int32, z.toInt = ((cyN V T wl.toInt a b V : Nat) : Int) → R (.inl (some (.int z))) hp) :
    ∀ (jj t : Nat) (w wt : Int32), wt.toInt = (t : Int) → t + jj = (cyS T a b V).length → w.toInt = ((sm (fun q => iv (((cyL T a b ((cyS T a b V).getD q 0) : Nat) : Int) = wl.toInt)) t : Nat) : Int) → xV (d + 2) am_m42 4 [some (.ref 52), some (.int wl), some (.int w), some (.int wt)] [] hp R := by
  obtain ⟨c1, c2, c3, c4, c5⟩ := hC
  obtain ⟨y1, y2, y3⟩ := cy_15 (T := T) (n := V) hT aV bV hab (Nat.le_refl V)
  intro jj
  induction jj with
  | zero =>
    intro t w wt hwt hj hw
    have et : t = (cyS T a b V).length := by omega
    rw [et, cyN_S (V := V)] at hw
    refine xild 5 ⟨u42, _, rfl⟩ rfl rfl ?_
    refine xald 6 ⟨u42, _, rfl⟩ rfl rfl ?_
    refine xgetC 9 hH ⟨u42, _, rfl⟩ rfl (by decide) (by decide) rfl rfl (by decide) (fun z6 h6 => ?_)
    refine xcmp_ge 12 ⟨u42, _, rfl⟩ rfl (fun c9 => ?_) (fun c9 => ?_)
    · refine xild 31 ⟨u42, _, rfl⟩ rfl rfl ?_
      exact xret ⟨u42, _, rfl⟩ rfl (hR _ hw)
    · omega
  | succ jj ih =>
    intro t w wt hwt hj hw
    have f1 := c4 t (by omega)
    have f2 := c4 (t + 1) (by omega)
    have f3 := offs_s (T := T) (a := a) (b := b) (L := cyS T a b V) (q := t)
    have f4 := y3 (t + 1) (by omega)
    have kl := dg_leC (f := fun q => iv (((cyL T a b ((cyS T a b V).getD q 0) : Nat) : Int) = wl.toInt)) (fun i => iv_le) t
    have k3 : sm (fun q => iv (((cyL T a b ((cyS T a b V).getD q 0) : Nat) : Int) = wl.toInt)) (t + 1) = sm (fun q => iv (((cyL T a b ((cyS T a b V).getD q 0) : Nat) : Int) = wl.toInt)) t + iv (((cyL T a b ((cyS T a b V).getD t 0) : Nat) : Int) = wl.toInt) := rfl
    refine xild 5 ⟨u42, _, rfl⟩ rfl rfl ?_
    refine xald 6 ⟨u42, _, rfl⟩ rfl rfl ?_
    refine xgetC 9 hH ⟨u42, _, rfl⟩ rfl (by decide) (by decide) rfl rfl (by decide) (fun z6 h6 => ?_)
    refine xcmp_ge 12 ⟨u42, _, rfl⟩ rfl (fun c9 => ?_) (fun c9 => ?_)
    · omega
    · refine xald 13 ⟨u42, _, rfl⟩ rfl rfl ?_
      refine xild 14 ⟨u42, _, rfl⟩ rfl rfl ?_
      refine xcallC 17 (o := 52) [.int _] [] hH ⟨u42, _, rfl⟩ rfl rfl (by decide) rfl (by decide) rfl ⟨rfl, rfl, rfl, rfl⟩ rfl (k_lngC hH (n := t) hwt (by omega) (by omega) (by omega) (by omega) (fun z14 h14 => ⟨_, rfl, ?_⟩))
      refine xild 18 ⟨u42, _, rfl⟩ rfl rfl ?_
      refine xcmp_ne 21 ⟨u42, _, rfl⟩ rfl (fun c18 => ?_) (fun c18 => ?_)
      · refine xinc 27 (1) ⟨u42, _, rfl⟩ rfl rfl rfl (by decide) (by omega) (by omega) (fun z24 h24 => ?_)
        refine xgoto ⟨u42, _, rfl⟩ ?_
        rw [iv_f (p := ((cyL T a b ((cyS T a b V).getD t 0) : Nat) : Int) = wl.toInt) (by omega)] at k3
        exact ih (t + 1) _ _ (by omega) (by omega) (by omega)
      · refine xinc 24 (1) ⟨u42, _, rfl⟩ rfl rfl rfl (by decide) (by omega) (by omega) (fun z21 h21 => ?_)
        refine xinc 27 (1) ⟨u42, _, rfl⟩ rfl rfl rfl (by decide) (by omega) (by omega) (fun z24 h24 => ?_)
        refine xgoto ⟨u42, _, rfl⟩ ?_
        rw [iv_t (p := ((cyL T a b ((cyS T a b V).getD t 0) : Nat) : Int) = wl.toInt) (by omega)] at k3
        exact ih (t + 1) _ _ (by omega) (by omega) (by omega)
theorem k_42E {d a b V : Nat} {T : sT} {hp : amH} {R : xQ} {wl : Int32} (hT : sOk V T) (hH : bHk 84 bTT hp) (hC : cyP hp T a b V) (aV : a < V) (bV : b < V) (hab : ¬ a = b)
    (hR : ∀ z : Int32, z.toInt = ((cyN V T wl.toInt a b V : Nat) : Int) → R (.inl (some (.int z))) hp) : xK (d + 2) 42 [.ref 52, .int wl] hp R := by
  refine xin (M := am_m42) rfl rfl rfl ?_
  refine xcst 1 (0) ⟨u42, _, rfl⟩ rfl (by decide) (fun z0 h0 => ?_)
  refine xist 2 ⟨u42, _, rfl⟩ rfl rfl ?_
  refine xcst 3 (0) ⟨u42, _, rfl⟩ rfl (by decide) (fun z2 h2 => ?_)
  refine xist 4 ⟨u42, _, rfl⟩ rfl rfl ?_
  exact l42E hT hH hC aV bV hab hR (cyS T a b V).length 0 _ _ h2 (by omega) h0
