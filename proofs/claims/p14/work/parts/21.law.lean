/-! ===== behind the law's beginning stands what the loop wants ===== -/
noncomputable def hV (n : Nat) (y : bY) (v : aV) : Bool := match y with
  | .inl q => (match v with
    | .inr p => Nat.ble q.1 p.1 && Nat.ble p.2 q.2
    | .inl _ => false)
  | .inr (.inl t) => (match v with
    | .inl (.long _) => Nat.beq t 1
    | _ => false)
  | .inr (.inr l) => (match v with
    | .inl (.ref i) => Nat.ble (i + 1) n && l.any (fun j => Nat.beq j i)
    | _ => false)
theorem hV_s {n : Nat} {y : bY} {v : aV} {w : Value} (h : hV n y v = true) (hr : aR v w) : bYr n y w := by
  unfold hV at h
  split at h
  · next q =>
    split at h
    · next p =>
      simp only [Bool.and_eq_true] at h
      have h1 := Nat.le_of_ble_eq_true h.1
      have h2 := Nat.le_of_ble_eq_true h.2
      obtain ⟨x, rfl, g1, g2⟩ := hr
      have := aOff_eq x
      exact ⟨x, rfl, by omega, by omega⟩
    · cases h
  · next t =>
    split at h
    · next x => exact Or.inl ⟨Nat.eq_of_beq_eq_true h, x, hr⟩
    · cases h
  · next l =>
    split at h
    · next i =>
      simp only [Bool.and_eq_true] at h
      obtain ⟨j, g1, g2⟩ := List.any_eq_true.mp h.2
      have g2 := Nat.eq_of_beq_eq_true g2
      subst g2
      exact ⟨j, hr, Nat.le_of_ble_eq_true h.1, g1⟩
    · cases h
noncomputable def hAll (f : Nat → Bool) : Nat → Bool
  | 0 => true
  | n + 1 => (match f n with
    | true => hAll f n
    | false => false)
theorem hAll_s {f : Nat → Bool} : ∀ {n : Nat}, hAll f n = true → ∀ j, j < n → f j = true
  | 0, _, j, hj => absurd hj (Nat.not_lt_zero j)
  | n + 1, h, j, hj => by
    unfold hAll at h
    split at h
    · next e =>
      by_cases hn : j = n
      · rw [hn]; exact e
      · exact hAll_s h j (by omega)
    · cases h
noncomputable def hCz (n : Nat) (D : bD) (c : aC) : Bool := Nat.beq c.1 D.1 && (Nat.beq c.2.1 D.2.1 && hAll (fun j => match bDy D j, cGet c.2.2 j with
  | some y, some v => hV n y v
  | _, _ => false) c.2.1)
theorem hCz_s {n : Nat} {D : bD} {c : aC} {d : amC} (h : hCz n D c = true) (hr : aRc c d) : bHc n D d := by
  simp only [hCz, Bool.and_eq_true] at h
  obtain ⟨h1, h2, h3⟩ := h
  have h1 := Nat.eq_of_beq_eq_true h1
  have h2 := Nat.eq_of_beq_eq_true h2
  obtain ⟨r1, r2, r3⟩ := hr
  refine ⟨by rw [← r1, h1], by rw [← r2, h2], fun j w hw => ?_⟩
  have hj : j < c.2.1 := by rw [r2]; exact a_lt hw
  have g := hAll_s h3 j hj
  have r := r3 j
  rw [hw] at r
  split at g
  · next y v ey ev =>
    rw [ev] at r
    exact ⟨y, ey, hV_s g r⟩
  · cases g
noncomputable def hH (n : Nat) (T : Nat → Option bD) (h : aH) : Bool := Nat.beq h.1 n && hAll (fun i => match T i, cGet h.2 i with
  | some D, some c => hCz n D c
  | _, _ => false) n
theorem hH_s {n : Nat} {T : Nat → Option bD} {h : aH} {hp : amH} (e : hH n T h = true) (hr : aRh h hp) : bHk n T hp := by
  simp only [hH, Bool.and_eq_true] at e
  obtain ⟨e1, e2⟩ := e
  have e1 := Nat.eq_of_beq_eq_true e1
  obtain ⟨r1, r2⟩ := hr
  refine ⟨by omega, fun i c hc => ?_⟩
  have hi : i < hp.length := a_lt hc
  obtain ⟨c9, d, g1, g2, g3⟩ := r2 i hi
  rw [hc] at g2
  cases g2
  have g := hAll_s e2 i (by omega)
  split at g
  · next D c' eD ec =>
    rw [g1] at ec
    cases ec
    exact ⟨D, eD, hCz_s g g3⟩
  · cases g
theorem h_hp0 : hH 84 bTT a_hp0 = true := by decide +kernel
/-- a number in the cells -/
noncomputable def hNm (h : aH) (c i k : Nat) : Bool := match cGet h.2 c with
  | some d => (match cGet d.2.2 i with
    | some (.inr p) => Nat.beq p.1 k && Nat.beq p.2 k
    | _ => false)
  | none => false
theorem hNm_s {h : aH} {hp : amH} {c i k : Nat} (hr : aRh h hp) (hc : c < h.1) (e : hNm h c i k = true) : rN hp c i = (k : Int) - 2147483648 := by
  unfold hNm at e
  split at e
  · next d ed =>
    split at e
    · next p ep =>
      simp only [Bool.and_eq_true] at e
      have e1 := Nat.eq_of_beq_eq_true e.1
      have e2 := Nat.eq_of_beq_eq_true e.2
      obtain ⟨c9, d9, g1, g2, g3⟩ := hr.2 c (by rw [← hr.1]; exact hc)
      rw [g1] at ed
      cases ed
      obtain ⟨w, w1, x, rfl, x1, x2⟩ := aRc_get g3 ep
      unfold rN bFld
      rw [g2]
      dsimp only
      rw [w1]
      dsimp only
      omega
    · cases e
  · cases e
theorem h_vf : hAll (fun j => hNm a_hp0 67 (4 + j) 2147483647) 225 = true := by decide +kernel
theorem h_nm : (hNm a_hp0 67 0 2147483651 && (hNm a_hp0 66 6 2147483648 && (hNm a_hp0 66 5 2147483648 && (hNm a_hp0 69 0 2147483648 && (hNm a_hp0 1 0 2147483648 && (hNm a_hp0 66 21 2147483648 && (hNm a_hp0 1 1 2147483648 && (hNm a_hp0 1 2 2147483647 && (hNm a_hp0 66 22 2147483648 && hNm a_hp0 66 23 2147483647))))))))) = true := by decide +kernel
theorem h_law0 {hp : amH} (hr : aRh a_hp0 hp) : lawI hp := by
  have hn := h_nm
  simp only [Bool.and_eq_true] at hn
  obtain ⟨n1, n2, n3, n4, n5, n6, n7, n8, n9, n10⟩ := hn
  have n1 := hNm_s hr (by decide) n1
  have n2 := hNm_s hr (by decide) n2
  have n3 := hNm_s hr (by decide) n3
  have n4 := hNm_s hr (by decide) n4
  have n5 := hNm_s hr (by decide) n5
  have n6 := hNm_s hr (by decide) n6
  have n7 := hNm_s hr (by decide) n7
  have n8 := hNm_s hr (by decide) n8
  have n9 := hNm_s hr (by decide) n9
  have n10 := hNm_s hr (by decide) n10
  refine ⟨hH_s h_hp0 hr, ⟨⟨by omega, by omega, fun a b ha hb => Or.inl ?_⟩, fun z => by omega, fun k hk _ => by omega, fun z => by omega⟩, by omega, bt_to (by omega) (fun k hk => by omega), by omega, by omega⟩
  have hj : 15 * a + b < 225 := by omega
  have := hNm_s hr (by decide) (hAll_s h_vf (15 * a + b) hj)
  rw [show 4 + 15 * a + b = 4 + (15 * a + b) by omega, this]
  decide
/-! ===== the law's beginning as one state ===== -/
theorem h_c0 : (hNm a_hp0 3 0 2147483651 && (hNm a_hp0 3 1 2147483648 && (hNm a_hp0 49 0 2147483648 && (hNm a_hp0 14 0 2147483648 && (hNm a_hp0 14 3 2147483648 && (hAll (fun j => hNm a_hp0 13 j 2147483648) 3 && (hAll (fun j => hNm a_hp0 67 (j + 1) 2147483648) 3 && hAll (fun j => hNm a_hp0 4 j 2147483647) 225))))))) = true := by decide +kernel
theorem h_c1 : hAll (fun p => hNm a_hp0 6 p (Nat.add 2147483648 (if Nat.beq p 0 then 6 else if Nat.beq p 1 then 5 else if Nat.beq p 2 then 3 else 0))) 15 = true := by decide +kernel
theorem h_c2 : hAll (fun k => hRf a_hp0 15 k (Nat.add 19 (Nat.mul 3 k))) 10 = true := by decide +kernel
theorem h_c3 : hAll (fun k => hRf a_hp0 (Nat.add 16 (Nat.mul 3 k)) 2 (Nat.add 17 (Nat.mul 3 k)) && hRf a_hp0 (Nat.add 16 (Nat.mul 3 k)) 3 (Nat.add 18 (Nat.mul 3 k))) 11 = true := by decide +kernel
theorem h_op : ∀ p : Fin 15, ((Nat.add 2147483648 (if Nat.beq p.1 0 then 6 else if Nat.beq p.1 1 then 5 else if Nat.beq p.1 2 then 3 else 0) : Nat) : Int) - 2147483648 = ((if p.1 = 0 then 6 else if p.1 = 1 then 5 else if p.1 = 2 then 3 else 0 : Nat) : Int) := by decide
theorem sn_k {s : Nat} (h : sn s) : ∃ k, k < 11 ∧ s = 16 + 3 * k := by
  rcases sn_c h with rfl | rfl | rfl | rfl | rfl | rfl | rfl | rfl | rfl | rfl | rfl
  · exact ⟨0, by omega, rfl⟩
  · exact ⟨1, by omega, rfl⟩
  · exact ⟨2, by omega, rfl⟩
  · exact ⟨3, by omega, rfl⟩
  · exact ⟨4, by omega, rfl⟩
  · exact ⟨5, by omega, rfl⟩
  · exact ⟨6, by omega, rfl⟩
  · exact ⟨7, by omega, rfl⟩
  · exact ⟨8, by omega, rfl⟩
  · exact ⟨9, by omega, rfl⟩
  · exact ⟨10, by omega, rfl⟩
theorem sn_of : ∀ k : Fin 10, sn (19 + 3 * k.1) := by unfold sn; decide
theorem h_st0 {hp : amH} {h : Nat → sR} (hr : aRh a_hp0 hp) : clS hp (3, sE, fun _ => 0) 0 h none ∧ rfS hp (3, sE, fun _ => 0) 0 h none := by
  have hn := h_nm
  simp only [Bool.and_eq_true] at hn
  obtain ⟨n1, n2, n3, n4, n5, n6⟩ := hn
  have n1 := hNm_s hr (by decide) n1
  have n2 := hNm_s hr (by decide) n2
  have n3 := hNm_s hr (by decide) n3
  have hc := h_c0
  simp only [Bool.and_eq_true] at hc
  obtain ⟨c1, c2, c3, c4, c5, c6, c7, c8⟩ := hc
  have c1 := hNm_s hr (by decide) c1
  have c2 := hNm_s hr (by decide) c2
  have c3 := hNm_s hr (by decide) c3
  have c4 := hNm_s hr (by decide) c4
  have c5 := hNm_s hr (by decide) c5
  refine ⟨beg_cl (by omega) (by omega) (fun j hj => ?_) (fun p hp1 => ?_) (fun i hi => ?_) (by omega) (by omega) (by omega) (fun s hs => ?_) ⟨fun k => 19 + 3 * k, fun k hk => ⟨sn_of ⟨k, hk⟩, (by show ¬ 19 + 3 * k = 16; omega), hRf_s hr (by decide) (hAll_s h_c2 k hk)⟩, fun j k _ _ e => by have e : 19 + 3 * j = 19 + 3 * k := e; omega⟩, beg_rf (by omega) (fun j hj => ?_) (fun i hi => ?_) (by omega) (by omega)⟩
  · rw [hNm_s hr (by decide) (hAll_s c8 j hj)]
    decide
  · rw [hNm_s hr (by decide) (hAll_s h_c1 p hp1), opN_E ⟨p, hp1⟩]
    exact h_op ⟨p, hp1⟩
  · rw [hNm_s hr (by decide) (hAll_s c6 i hi)]
    decide
  · obtain ⟨k, hk, rfl⟩ := sn_k hs
    have g := hAll_s h_c3 k hk
    simp only [Bool.and_eq_true] at g
    have l : 16 + 3 * k < a_hp0.1 := by show 16 + 3 * k < 84; omega
    refine ⟨?_, ?_⟩
    · have := hRf_s hr l g.1
      rw [show Nat.add 17 (Nat.mul 3 k) = 16 + 3 * k + 1 by show 17 + 3 * k = 16 + 3 * k + 1; omega] at this
      exact this
    · have := hRf_s hr l g.2
      rw [show Nat.add 18 (Nat.mul 3 k) = 16 + 3 * k + 2 by show 18 + 3 * k = 16 + 3 * k + 2; omega] at this
      exact this
  · rw [hNm_s hr (by decide) (hAll_s h_vf j hj)]
    decide
  · rw [hNm_s hr (by decide) (hAll_s c7 i hi)]
    decide
theorem h_lawJ0 {hp : amH} (hr : aRh a_hp0 hp) : lawJ hp := ⟨h_law0 hr, _, _, fun _ => (3, sE, fun _ => 0), _, h_st0 hr⟩
