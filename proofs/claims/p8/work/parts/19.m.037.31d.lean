/-! ===== the class gives back what was ===== -/
theorem pG_id {V : Nat} {T : sT} (hT : sOk V T) : pG id T 225 = T := by
  obtain ⟨-, i2, i3⟩ := pG_s hT (sPm_id (V := V)) 225
  funext u v
  by_cases h : u < V ∧ v < V
  · rcases i3 u v h.1 h.2 with g | g
    · obtain ⟨w, ew, -⟩ := sOk_at hT rfl g.2.1
      have g1 : pG id T 225 u v = (((T u v).toNat : Nat) : Int) := g.1
      rw [g1, ew, Int.toNat_natCast]
    · have g1 : pG id T 225 u v = -1 := g.1
      rw [g1]
      by_cases e : T u v = -1
      · exact e.symm
      · have := g.2 e
        have := cd_lt hT e
        omega
  · rw [i2 u v h]
    rcases hT.2.2 u v with g | ⟨c, g1, g2, g3, -⟩
    · exact g.symm
    · exact absurd ⟨g2, g3⟩ h
theorem trL_mono {T : sT} (n : Nat) : ∀ k, (trL T n).length ≤ (trL T (n + k)).length
  | 0 => Nat.le_refl _
  | k + 1 => by
    have := trL_mono (T := T) n k
    have e : (trL T (n + (k + 1))) = (if trB T (n + k) = true then trL T (n + k) ++ [n + k] else trL T (n + k)) := rfl
    rw [e]
    split
    · rw [List.length_append]; omega
    · exact this
theorem pG_len {σ : Nat → Nat} {T : sT} {n : Nat} : ∀ k, (trL T (n + k)).length = (trL T n).length → pG σ T (n + k) = pG σ T n
  | 0, _ => rfl
  | k + 1, h => by
    have e : (trL T (n + (k + 1))) = (if trB T (n + k) = true then trL T (n + k) ++ [n + k] else trL T (n + k)) := rfl
    have e2 : pG σ T (n + (k + 1)) = (if trB T (n + k) = true then sPut (pG σ T (n + k)) (σ ((n + k) / 15)) (σ ((n + k) % 15)) (σ (T ((n + k) / 15) ((n + k) % 15)).toNat) else pG σ T (n + k)) := rfl
    have m := trL_mono (T := T) n k
    rw [e] at h
    rw [e2]
    split at h
    · rw [List.length_append, List.length_singleton] at h
      omega
    · next g =>
      rw [if_neg g]
      exact pG_len k h
theorem pG_eq {σ : Nat → Nat} {T : sT} {n m : Nat} (h : (trL T n).length = (trL T m).length) : pG σ T n = pG σ T m := by
  rcases Nat.le_total n m with g | g
  · obtain ⟨k, rfl⟩ := Nat.exists_eq_add_of_le g
    exact (pG_len k h.symm).symm
  · obtain ⟨k, rfl⟩ := Nat.exists_eq_add_of_le g
    exact pG_len k h
theorem trL_get {T : sT} : ∀ n t, t < (trL T n).length → trB T ((trL T n).getD t 0) = true ∧ (trL T n).getD t 0 < n ∧ (trL T ((trL T n).getD t 0)).length = t
  | 0, t, h => absurd h (Nat.not_lt_zero t)
  | n + 1, t, h => by
    by_cases hb : trB T n = true
    · have e : trL T (n + 1) = trL T n ++ [n] := trL_add hb
      rw [e] at h ⊢
      rw [List.length_append, List.length_singleton] at h
      by_cases g : t = (trL T n).length
      · subst g
        rw [gd_end]
        exact ⟨hb, Nat.lt_succ_self n, rfl⟩
      · rw [gd_app (by omega)]
        obtain ⟨g1, g2, g3⟩ := trL_get (T := T) n t (by omega)
        exact ⟨g1, by omega, g3⟩
    · have e : trL T (n + 1) = trL T n := by
        show (if trB T n = true then _ else _) = _
        rw [if_neg hb]
      rw [e] at h ⊢
      obtain ⟨g1, g2, g3⟩ := trL_get n t h
      exact ⟨g1, by omega, g3⟩
/-- the next triple -/
theorem pG_next {V : Nat} {T : sT} {σ : Nat → Nat} (hT : sOk V T) (hs : sPm V σ) {t m : Nat} (ht : t < (trL T 225).length) (hm : (trL T m).length = t) : ∃ n x y z : Nat, (trL T 225).getD t 0 = n ∧ n / 15 = x ∧ n % 15 = y ∧ T x y = (z : Int) ∧ mk3 T n = m3 x y z ∧ x < y ∧ y < z ∧ z < V ∧ n < 225 ∧ (trL T (n + 1)).length = t + 1 ∧ pG σ T (n + 1) = sPut (pG σ T m) (σ x) (σ y) (σ z) ∧ sFree (pG σ T m) (σ x) (σ y) (σ z) := by
  obtain ⟨g1, g2, g3⟩ := trL_get 225 t ht
  obtain ⟨z, ez, h1, h2, h3⟩ := tr_pts hT g1
  generalize hn : (trL T 225).getD t 0 = n at *
  have e : pG σ T n = pG σ T m := pG_eq (g3.trans hm.symm)
  have el : (trL T (n + 1)).length = t + 1 := by rw [trL_add g1, List.length_append, List.length_singleton, g3]
  refine ⟨n, n / 15, n % 15, z, rfl, rfl, rfl, ez, by unfold mk3; rw [ez, Int.toNat_natCast], h1, h2, h3, g2, el, ?_, ?_⟩
  · show (if trB T n = true then _ else _) = _
    rw [if_pos g1, e, ez, Int.toNat_natCast]
  · obtain ⟨-, -, i3⟩ := pG_s hT hs n
    rw [e] at i3
    have q := fun u v hp => cd_pr hT (u := u) (v := v) g1 hp
    rw [ez, Int.toNat_natCast] at q
    have fr : ∀ u v, u < V → v < V → sPr (n / 15) (n % 15) z u v → pG σ T m (σ u) (σ v) = -1 := fun u v hu hv hp => by
      rcases i3 u v hu hv with k | k
      · have := (q u v hp).2.2
        have := k.2.2
        omega
      · exact k.1
    exact ⟨fr _ _ (by omega) (by omega) ⟨by omega, by omega, by omega⟩, fr _ _ (by omega) (by omega) ⟨by omega, by omega, by omega⟩, fr _ _ (by omega) (by omega) ⟨by omega, by omega, by omega⟩⟩
theorem l90 {d : Nat} {hp0 : amH} {R : xQ} {s V : Nat} {T : sT} {ty : Nat → Int} (hs : sn s) (F2 : snF hp0 s) (hS : snOk hp0 s (V, T, ty))
    (hR : ∀ hp1, bHk 84 bTT hp1 → bFx [3, 4, 6, 13] hp0 hp1 → bdOk hp1 3 V T → (∀ i, i < 3 → rN hp1 13 i = ty i) → R (.inl none) hp1) :
    ∀ (jj t m : Nat) (w : Int32) (hp : amH), w.toInt = (t : Int) → t + jj = (trL T 225).length → (trL T m).length = t → bHk 84 bTT hp → bFx [3, 4, 6] hp0 hp → bdOk hp 3 V (pG id T m) → xV (d + 3) am_m90 10 [some (.ref s), some (.ref 3), some (.ref 13), some (.int w)] [] hp R := by
  have c := sn_c hs
  have S1 : rN hp0 s 1 = (((trL T 225).length : Nat) : Int) := hS.2.2.2.1
  have hT : sOk V T := hS.2.1
  have hV := hT.2.1
  have l35 := trL_35 hT 225
  intro jj
  induction jj with
  | zero =>
    intro t m w hp hw hj hm hH hF hB
    have f2 := (hF s 2 (by simp; omega)).trans F2.1
    have f3 := (hF s 3 (by simp; omega)).trans F2.2
    have e1 : rN hp s 1 = rN hp0 s 1 := bFx_n hF (by simp; omega)
    have eT : pG id T m = T := (pG_eq (by omega)).trans (pG_id hT)
    rw [eT] at hB
    refine xild 11 ⟨u90, _, rfl⟩ rfl rfl ?_
    refine xald 12 ⟨u90, _, rfl⟩ rfl rfl ?_
    refine xgetC 15 hH ⟨u90, _, rfl⟩ rfl (sn_lt hs) (by decide) (sn_T hs) rfl (by decide) (fun z12 h12 => ?_)
    refine xcmp_ge 18 ⟨u90, _, rfl⟩ rfl (fun c15 => ?_) (fun c15 => ?_)
    · refine xald 44 ⟨u90, _, rfl⟩ rfl rfl ?_
      refine xald 45 ⟨u90, _, rfl⟩ rfl rfl ?_
      refine xgetF 48 (s + 2) hH ⟨u90, _, rfl⟩ rfl (sn_lt hs) (by decide) (sn_T hs) (f3) ?_
      refine xcallC 51 (o := 13) [.ref (s + 2)] [] hH ⟨u90, _, rfl⟩ rfl rfl (by decide) rfl (by decide) rfl ⟨rfl, rfl, rfl, rfl⟩ rfl (k_tyc (Or.inl rfl) (Or.inr ⟨s, hs, rfl⟩) (by omega) hH (fun hp48 hH48 F48 E48 => ⟨_, rfl, ?_⟩))
      exact xretV ⟨u90, _, rfl⟩ rfl (hR _ hH48 ((hF.mono (by simp)).trans (F48.mono (by simp))) (bdOk_fr hB (bFx_n F48 (by simp)) (fun i => bFx_n F48 (by simp)) (fun i => bFx_n F48 (by simp))) (fun i hi => by rw [E48 i hi, bFx_n hF (by simp; omega)]; exact hS.2.2.2.2.2 i hi))
    · omega
  | succ jj ih =>
    intro t m w hp hw hj hm hH hF hB
    have f2 := (hF s 2 (by simp; omega)).trans F2.1
    have f3 := (hF s 3 (by simp; omega)).trans F2.2
    have e1 : rN hp s 1 = rN hp0 s 1 := bFx_n hF (by simp; omega)
    obtain ⟨n, x, y, z, k1, k2, k3, k4, k5, k6, k7, k8, k9, k10, k11, k12⟩ := pG_next hT (sPm_id (V := V)) (t := t) (by omega) hm
    have k11 : pG id T (n + 1) = sPut (pG id T m) x y z := k11
    have k12 : sFree (pG id T m) x y z := k12
    have q1 : rN hp (s + 1) t = ((m3 x y z : Nat) : Int) := by
      rw [bFx_n hF (by simp; omega), ← k5, ← k1]
      exact hS.2.2.2.2.1 t (by show t < (trL T 225).length; omega)
    refine xild 11 ⟨u90, _, rfl⟩ rfl rfl ?_
    refine xald 12 ⟨u90, _, rfl⟩ rfl rfl ?_
    refine xgetC 15 hH ⟨u90, _, rfl⟩ rfl (sn_lt hs) (by decide) (sn_T hs) rfl (by decide) (fun z12 h12 => ?_)
    refine xcmp_ge 18 ⟨u90, _, rfl⟩ rfl (fun c15 => ?_) (fun c15 => ?_)
    · omega
    · refine xild 19 ⟨u90, _, rfl⟩ rfl rfl ?_
      refine xald 20 ⟨u90, _, rfl⟩ rfl rfl ?_
      refine xgetF 23 (s + 1) hH ⟨u90, _, rfl⟩ rfl (sn_lt hs) (by decide) (sn_T hs) (f2) ?_
      refine xlen 24 hH ⟨u90, _, rfl⟩ rfl (sn_lt1 hs) (sn_T1 hs) (by decide) (by decide) (fun z23 h23 => ?_)
      refine xcmp_ge 27 ⟨u90, _, rfl⟩ rfl (fun c24 => ?_) (fun c24 => ?_)
      · omega
      · refine xald 28 ⟨u90, _, rfl⟩ rfl rfl ?_
        refine xald 29 ⟨u90, _, rfl⟩ rfl rfl ?_
        refine xgetF 32 (s + 1) hH ⟨u90, _, rfl⟩ rfl (sn_lt hs) (by decide) (sn_T hs) (f2) ?_
        refine xild 33 ⟨u90, _, rfl⟩ rfl rfl ?_
        refine xiald 34 (w).toInt.toNat hH ⟨u90, _, rfl⟩ rfl (sn_lt1 hs) (sn_T1 hs) (by omega) (by omega) (fun z33 h33 => ?_)
        refine xcallC 37 (o := 3) [.int _] [] hH ⟨u90, _, rfl⟩ rfl rfl (by decide) rfl (by decide) rfl ⟨rfl, rfl, rfl, rfl⟩ rfl (k_bput (Or.inl rfl) hH hB (x := x) (y := y) (z := z) (by rw [h33, show w.toInt.toNat = t by omega]; exact q1) (by omega) (by omega) (by omega) k12 (fun hp34 hH34 F34 B34 => ⟨_, rfl, ?_⟩))
        refine xinc 40 (1) ⟨u90, _, rfl⟩ rfl rfl rfl (by decide) (by omega) (by omega) (fun z37 h37 => ?_)
        refine xgoto ⟨u90, _, rfl⟩ ?_
        exact ih (t + 1) (n + 1) _ hp34 (by omega) (by omega) k10 hH34 (hF.trans (F34.mono (by simp))) (by rw [k11]; exact B34)
/-- a snapshot given back -/
theorem k_gvb {d : Nat} {hp : amH} {R : xQ} {s V : Nat} {T : sT} {ty : Nat → Int} (hs : sn s) (F2 : snF hp s) (hS : snOk hp s (V, T, ty)) (hH : bHk 84 bTT hp)
    (hR : ∀ hp1, bHk 84 bTT hp1 → bFx [3, 4, 6, 13] hp hp1 → bdOk hp1 3 V T → (∀ i, i < 3 → rN hp1 13 i = ty i) → R (.inl none) hp1) : xK (d + 3) 90 [.ref s, .ref 3, .ref 13] hp R := by
  have c := sn_c hs
  have S0 : rN hp s 0 = (V : Int) := hS.1
  have hT : sOk V T := hS.2.1
  refine xin (M := am_m90) rfl rfl (by unfold xAv; simp [amOk, sn_lt hs, Value.category]) ?_
  refine xald 1 ⟨u90, _, rfl⟩ rfl rfl ?_
  refine xald 2 ⟨u90, _, rfl⟩ rfl rfl ?_
  refine xgetC 5 hH ⟨u90, _, rfl⟩ rfl (sn_lt hs) (by decide) (sn_T hs) rfl (by decide) (fun z2 h2 => ?_)
  refine xcallC 8 (o := 3) [.int _] [] hH ⟨u90, _, rfl⟩ rfl rfl (by decide) rfl (by decide) rfl ⟨rfl, rfl, rfl, rfl⟩ rfl (k_rst (o := 3) (Or.inl rfl) hH (V := V) (by omega) hT.1 hT.2.1 (fun hp5 hH5 F5 B5 z5 => ⟨_, rfl, ?_⟩))
  refine xcst 9 (0) ⟨u90, _, rfl⟩ rfl (by decide) (fun z8 h8 => ?_)
  refine xist 10 ⟨u90, _, rfl⟩ rfl rfl ?_
  exact l90 hs ⟨(F5 s 2 (by simp; omega)).trans F2.1, (F5 s 3 (by simp; omega)).trans F2.2⟩ (snOk_fr hS (fun c c1 c2 k => F5 c k (by simp; omega))) (fun hp1 k1 k2 k3 k4 => hR hp1 k1 ((F5.mono (by simp)).trans k2) k3 k4) (trL T 225).length 0 0 _ hp5 (by omega) (by omega) rfl hH5 bFx.refl B5
