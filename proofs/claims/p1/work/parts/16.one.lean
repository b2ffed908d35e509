/-! ===== the law, run on every script of at most six ints, answers 1 ===== -/
def aUp : amP → Bool
  | [] => true
  | q :: r => (match r with
    | [] => true
    | z :: _ => Nat.ble (q.1 + 1) z.1) && aUp r
theorem aUp_all : ∀ {q : Nat × amIn1} {r : amP}, aUp (q :: r) = true → ∀ z ∈ r, q.1 < z.1
  | q, [], _, z, hz => by cases hz
  | q, y :: r, h, z, hz => by
    unfold aUp at h
    rw [Bool.and_eq_true] at h
    have h1 : q.1 < y.1 := a_lt1 h.1
    rcases List.mem_cons.mp hz with rfl | hz
    · exact h1
    · exact Nat.lt_trans h1 (aUp_all h.2 z hz)
theorem aUp_tail {q : Nat × amIn1} {r : amP} (h : aUp (q :: r) = true) : aUp r = true := by
  unfold aUp at h
  rw [Bool.and_eq_true] at h
  exact h.2
theorem aUp_seek : ∀ {L : amP} {q : Nat × amIn1} {r : amP}, aUp L = true → (q :: r) <:+ L → aSeek L q.1 = q :: r
  | [], q, r, _, h => by
    have := List.suffix_nil.mp h
    cases this
  | a :: L, q, r, hu, h => by
    unfold aSeek
    rcases List.suffix_cons_iff.mp h with e | e
    · cases e
      rw [Nat.beq_refl]
    · have hlt := aUp_all hu q (e.subset List.mem_cons_self)
      have : Nat.beq a.1 q.1 = false := by
        cases hb : Nat.beq a.1 q.1 with
        | false => rfl
        | true => have := Nat.eq_of_beq_eq_true hb; omega
      rw [this]
      exact aUp_seek (aUp_tail hu) e
theorem a_up : aUp am_mL.1 = true := by decide +kernel
theorem aFull_all : ∀ (xs : List Int32), aRs (List.replicate xs.length aFull) (xs.map Value.int)
  | [] => trivial
  | x :: xs => ⟨aFull_s x, aFull_all xs⟩
theorem aInB_rs : ∀ {b : List (Nat × Nat)} {xs : List Int32}, aInB b xs → aRs (b.map Sum.inr) (xs.map Value.int)
  | [], [], _ => trivial
  | q :: b, x :: xs, h => ⟨⟨x, rfl, h.1.1, h.1.2⟩, aInB_rs h.2⟩
  | [], _ :: _, h => by cases h
  | _ :: _, [], h => by cases h
theorem aK1_s {R : Option amRes} (h : aFin amGG aK1 R) : ∃ (h' : amH) (mc ms : Nat), R = some (.inl (some (.int 1)), h', mc, ms) ∧ mc ≤ 600000 ∧ ms ≤ 7000000 := by
  obtain ⟨x, ah, mc, ms, y, h', e1, e2, e3, e4⟩ := h
  unfold aK1 at e4
  split at e4
  · next q =>
    simp only [Bool.and_eq_true] at e4
    obtain ⟨k1, k2, k3, k4⟩ := e4
    have k1 := Nat.eq_of_beq_eq_true k1
    have k2 := Nat.eq_of_beq_eq_true k2
    cases y with
    | inr E => cases e2
    | inl w =>
      cases w with
      | none => cases e2
      | some w =>
        obtain ⟨x, rfl, x1, x2⟩ := e2
        have : x = 1 := Int32.toInt_inj.mp (by rw [show (1 : Int32).toInt = 1 by decide]; omega)
        subst this
        exact ⟨h', mc, ms, e1, a_le k3, a_le k4⟩
  · cases e4
theorem aKno_s {R : Option amRes} (h : aFin amGG aKno R) : False := by
  obtain ⟨x, ah, mc, ms, y, h', e1, e2, e3, e4⟩ := h
  cases e4
theorem aNostop {G : Nat → Option amM} {KS : Nat → aL → List aV → aH → Nat → Nat → Bool} {sc : Option (List Int32)} {d : Nat} {M : amM} {R : Option amRes} (h : aStp G KS none sc d M R) : False := by
  obtain ⟨f1, cs1, pc1, ls1, st1, hp1, kc1, ks1, cl1, cst1, ch1, z, -⟩ := h
  cases z
theorem am_one {sc : List Int32} (hlen : sc.length ≤ 6) : ∃ (h' : amH) (mc ms : Nat), amRun amGG (some sc) 100000 600 am_mL am_mL.1 0 [(0, .ref amS)] [] [] 0 0 = some (.inl (some (.int 1)), h', mc, ms) ∧ mc ≤ 600000 ∧ ms ≤ 7000000 := by
  have r0 : aRl a_ls0 [(0, .ref amS)] := aInit_l (n := 9) (av := [.inl (.ref amS)]) (cav := [.ref amS]) ⟨rfl, trivial⟩
  have h0 : aRh a_h00 [] := ⟨rfl, fun j hj => absurd hj (Nat.not_lt_zero _)⟩
  rcases aRun_s _ _ _ _ _ _ _ _ _ _ _ _ _ (some sc) _ _ _ a_run1 trivial (List.suffix_refl _) r0 (show aRs [] [] from trivial) h0 with f | ⟨f1, cs1, pc1, ls1, st1, hp1, kc1, ks1, cl1, cst1, ch1, z, ⟨q, r, rfl, hq⟩, suf, ek, rl, rs, rh, eR⟩
  · exact (aKno_s f).elim
  · cases z
    obtain ⟨rfl, rfl, rfl, rfl, rfl, rfl⟩ := aKS_s ek
    have hc := aUp_seek a_up suf
    rw [hq] at hc
    rw [eR, ← hc]
    have suf2 : aSeek am_mL.1 23 <:+ am_mL.1 := by rw [hc]; exact suf
    by_cases hL : sc.length < 6
    · have hr : aShort sc.length = true := List.all_eq_true.mp a_run3 _ (List.mem_range.mpr hL)
      rcases aRun_s _ _ _ _ _ _ _ _ _ _ _ _ _ (some sc) _ _ _ hr (aFull_all sc) suf2 rl rs rh with f | s
      · exact aK1_s f
      · exact (aNostop s).elim
    · have hsc : aRsc (some [aFull, aFull, aFull, aFull, aFull, aFull]) (some sc) := by
        have := aFull_all sc
        rw [show sc.length = 6 by omega] at this
        exact this
      rcases aRun_s _ _ _ _ _ _ _ _ _ _ _ _ _ (some sc) _ _ _ a_run2 hsc suf2 rl rs rh with f | ⟨f1, cs1, pc1, ls1, st1, hp1, kc1, ks1, cl2, cst2, ch2, z, ⟨q2, r2, rfl, hq2⟩, suf3, ek, rl2, rs2, rh2, eR2⟩
      · exact (aKno_s f).elim
      · cases z
        obtain ⟨rfl, rfl, rfl, rfl, rfl, rfl⟩ := aKS_s ek
        have hc2 := aUp_seek a_up suf3
        rw [hq2] at hc2
        rw [eR2, ← hc2]
        have suf4 : aSeek am_mL.1 40 <:+ am_mL.1 := by rw [hc2]; exact suf3
        obtain ⟨w, ws, rfl, ⟨y, rfl, y1, y2⟩, rs3⟩ := aRs_cons rs2
        cases aRs_nil rs3
        obtain ⟨x0, xs, rfl⟩ : ∃ x0 xs, sc = x0 :: xs := by
          cases sc with
          | nil => exact absurd (by decide : ([] : List Int32).length < 6) hL
          | cons x0 xs => exact ⟨x0, xs, rfl⟩
        rw [List.length_cons] at hlen hL
        dsimp only at y1 y2
        obtain ⟨j, hj⟩ : ∃ j : Nat, y.toInt = j := ⟨y.toInt.toNat, by omega⟩
        obtain ⟨bs, hbs⟩ := a_any j (by omega)
        obtain ⟨b, b1, b2, b3⟩ := hbs xs (by omega)
        have hy : aRs [.inr (2147483648 + j, 2147483648 + j)] [.int y] := ⟨⟨y, rfl, by dsimp only; omega, by dsimp only; omega⟩, trivial⟩
        have hsc2 : aRsc (some (aFull :: b.map Sum.inr)) (some (x0 :: xs)) := ⟨aFull_s x0, aInB_rs b2⟩
        rcases aRun_s _ _ _ _ _ _ _ _ _ _ _ _ _ (some (x0 :: xs)) _ _ _ b3 hsc2 suf4 rl2 hy rh2 with f | s
        · exact aK1_s f
        · exact (aNostop s).elim
