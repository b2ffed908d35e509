/-! ===== helpers that catch, exactly ===== -/
section CJ
variable {sc : Option (List Int32)} {M : amM} {pc a b d : Nat} {L : List (Option Value)} {st : List Value} {hp : amH} {Q : cQ}
theorem ci2lE (q : Nat) {x : Int32} (h : xI M pc .i2l a b) (e : q = pc + 1) (hw : ∀ z : Int64, z.toInt = x.toInt → cV sc d M q L (.long z :: st) hp Q) : cV sc d M pc L (.int x :: st) hp Q := by
  refine cstep h (fun cl hl => ⟨cl, ?_, hl⟩) (hw x.toInt64 (Int32.toInt_toInt64 x))
  subst e
  simp [amDo, amStep, amI]
theorem clastE (q : Nat) {x : Int32} {v : Int64} (hH : bHk 84 bTT hp) (h : xI M pc .lastore a b) (e : q = pc + 1) (hx : x.toInt = 0) (hw : ∀ hp1, bHk 84 bTT hp1 → bFr [(83, 999)] hp hp1 → rJ hp1 83 0 = v.toInt → cV sc d M q L st hp1 Q) : cV sc d M pc L (.long v :: .int x :: .ref 83 :: st) hp Q := by
  obtain ⟨⟨t1, vs⟩, g1, g2⟩ := bHk_at hH (i := 83) (by decide) (D := (33, 1, [.inr (.inl 1)])) rfl
  have t33 : t1 = 33 := g2.1
  subst t33
  have g3 : vs.length = 1 := g2.2.1
  obtain ⟨e1, e2⟩ := rw_in (i := x) (n := 0) (m := vs.length) (by omega) (by omega)
  have hJ : rJ (hp.set 83 (33, vs.set 0 (.long v))) 83 0 = v.toInt := by
    unfold rJ
    rw [bFld_set (d := (33, vs)) g1, if_pos rfl]
    rw [show (vs.set 0 (Value.long v))[0]? = some (.long v) from by rw [List.getElem?_set_self (by omega)]]
  refine cstep h (fun cl hl => ⟨cl, ?_, hl⟩) (hw (hp.set 83 (33, vs.set 0 (.long v))) (bHk_set hH rfl (bHc_set g2 (y := .inr (.inl 1)) rfl (Or.inl ⟨rfl, _, rfl⟩))) (bFr_set (d := (33, vs)) g1 rfl) hJ)
  subst e
  simp only [amDo, amStep, amASt, g1, e1, e2, amIsJ, and_self, if_true, id, Option.map_some]
end CJ
/-- a call with an exact contract, thrown or not -/
theorem qKE {d k : Nat} {av : List Value} {hp : amH} {S : cQ} {Φ : Int32 → amH → Prop} {Ψ : Nat → amH → Prop} (h : ∀ R : xQ, (∀ z hp1, Φ z hp1 → R (.inl (some (.int z))) hp1) → (∀ E hp1, Ψ E hp1 → R (.inr E) hp1) → xK d k av hp R) (hS : ∀ z hp1, Φ z hp1 → S (.inl (some (.int z))) hp1 0 0) (hE : ∀ E hp1, Ψ E hp1 → S (.inr E) hp1 1 6) : cK d k av hp S := by
  refine cK_mono (cK_of (h (fun y hp1 => (∃ z, y = .inl (some (.int z)) ∧ Φ z hp1) ∨ ∃ E, y = .inr E ∧ Ψ E hp1) (fun z hp1 g => Or.inl ⟨z, rfl, g⟩) (fun E hp1 g => Or.inr ⟨E, rfl, g⟩))) (fun y hp1 mc ms hh => ?_)
  obtain ⟨rfl, rfl, hh⟩ := hh
  rcases hh with ⟨z, rfl, g⟩ | ⟨E, rfl, g⟩
  · exact hS z hp1 g
  · exact hE E hp1 g
/-- the class's cells kept beside out -/
theorem cl_83 {hp hp1 : amH} {q : sR} {n : Nat} {h : Nat → sR} {sv : Option sR} (F : bFr [(83, 999)] hp hp1) (hS : clS hp q n h sv) : clS hp1 q n h sv := clS_8 hS (fun c k hc => F c k (bIn_out (fun p hp z => by
  have d : ∀ p ∈ [((83 : Nat), (999 : Nat))], p.1 = 83 := by decide
  have := d p hp
  omega)))
theorem rf_83 {hp hp1 : amH} {q : sR} {n : Nat} {h : Nat → sR} {sv : Option sR} (F : bFr [(83, 999)] hp hp1) (hS : rfS hp q n h sv) : rfS hp1 q n h sv := rfS_W hS F (fun _ => rfl) rfl rfl (fun _ => rfl) (fun _ => rfl)
theorem u355J : bUp 0 am_m355.1 = true := by decide +kernel
theorem h355J {d : Nat} {hp : amH} {R : cQ} {x1 x2 x3 : Int32} {V n : Nat} {h : Nat → sR} {sv : Option sR} {T : sT} {ty : Nat → Int} (hI : lawI hp) (c : clS hp (V, T, ty) n h sv) (r : rfS hp (V, T, ty) n h sv)
    (hR : ∀ (z : Int32) hp1 mc ms, lawI hp1 → rfS hp1 (V, T, ty) n h sv → z.toInt = aCd V T x1.toInt x2.toInt x3.toInt → ((¬ aCd V T x1.toInt x2.toInt x3.toInt = 0 ∧ clS hp1 (V, T, ty) n h sv) ∨ (aCd V T x1.toInt x2.toInt x3.toInt = 0 ∧ clS hp1 (V, sPut T x1.toInt.toNat x2.toInt.toNat x3.toInt.toNat, ty) (pM n + 1) (pH n h (V, T, ty)) sv ∧ rJ hp1 83 0 = nmT (sPut T x1.toInt.toNat x2.toInt.toNat x3.toInt.toNat) (m3 x1.toInt.toNat x2.toInt.toNat x3.toInt.toNat))) → mc ≤ 1 → ms ≤ 6 → R (.inl (some (.int z))) hp1 mc ms) : cK (d + 20) 355 [.ref 0, .int x1, .int x2, .int x3, .ref 83] hp R := by
  refine cin (M := am_m355) rfl rfl rfl ?_
  refine cald2 2 ⟨u355J, _, rfl⟩ rfl rfl ?_
  refine ccst 3 (0) ⟨u355J, _, rfl⟩ rfl (by decide) (fun z2 h2 => ?_)
  refine cald 4 ⟨u355J, _, rfl⟩ rfl rfl ?_
  refine cild 5 ⟨u355J, _, rfl⟩ rfl rfl ?_
  refine cild 6 ⟨u355J, _, rfl⟩ rfl rfl ?_
  refine cild 7 ⟨u355J, _, rfl⟩ rfl rfl ?_
  refine ccall (kd := 0) (t := 3) [.ref 0, .int _, .int _, .int _] [.int _, .ref 83] hI.1 ⟨u355J, _, rfl⟩ (Or.inl ⟨_, rfl, rfl, by decide, by decide⟩) rfl rfl rfl ⟨rfl, rfl, rfl⟩ rfl (recv0 hI.1 _) rfl (qKE (Φ := fun z hp1 => bHk 84 bTT hp1 ∧ cF hp hp1 ∧ aCd V T x1.toInt x2.toInt x3.toInt = 0 ∧ clS hp1 (V, sPut T x1.toInt.toNat x2.toInt.toNat x3.toInt.toNat, ty) (pM n + 1) (pH n h (V, T, ty)) sv ∧ z.toInt = nmT (sPut T x1.toInt.toNat x2.toInt.toNat x3.toInt.toNat) (m3 x1.toInt.toNat x2.toInt.toNat x3.toInt.toNat)) (Ψ := fun E hp1 => hp1 = hp ∧ ¬ aCd V T x1.toInt x2.toInt x3.toInt = 0 ∧ exE (aCd V T x1.toInt x2.toInt x3.toInt) E) (fun R g1 g2 => k_126E (d := d + 13) hI.1 c (fun E e1 e2 => g2 E hp ⟨rfl, e1, e2⟩) (fun z hp1 a1 a2 a3 a4 a5 => g1 z hp1 ⟨a1, a2, a3, a4, a5⟩)) (fun z hp1 φ => Or.inl ⟨_, rfl, ?_⟩) (fun E hp1 ψ => Or.inr ?_))
  · refine ci2lE 11 ⟨u355J, _, rfl⟩ rfl (fun w hw => ?_)
    refine clastE 12 φ.1 ⟨u355J, _, rfl⟩ rfl h2 (fun hp2 hH2 F2 J2 => ?_)
    refine cgoto ⟨u355J, _, rfl⟩ ?_
    refine ccst 28 (0) ⟨u355J, _, rfl⟩ rfl (by decide) (fun z9 h9 => ?_)
    exact cret ⟨u355J, _, rfl⟩ (Or.inl rfl) (hR _ _ _ _ (lawI_83 (law_cl hI φ.1 φ.2.1) hH2 F2) (rf_83 F2 (cF_rf φ.2.1 r)) (by rw [φ.2.2.1]; exact h9) (Or.inr ⟨φ.2.2.1, cl_83 F2 φ.2.2.2.1, by rw [J2, hw]; exact φ.2.2.2.2⟩) (by decide) (by decide))
  · obtain ⟨rfl, ψ1, ψ2⟩ := ψ
    rcases ψ2 with ⟨ce, rfl⟩ | ⟨ce, rfl⟩ | ⟨ce, rfl⟩
    · refine ⟨1, 15, 5, 17, rfl, rfl, rfl, rfl, ?_⟩
      refine ccst 18 (1) ⟨u355J, _, rfl⟩ rfl (by decide) (fun z9 h9 => ?_)
      exact cret ⟨u355J, _, rfl⟩ (Or.inl rfl) (hR _ _ _ _ hI r (by rw [ce]; exact h9) (Or.inl ⟨ψ1, c⟩) (by decide) (by decide))
    · refine ⟨0, 19, 5, 21, rfl, rfl, rfl, rfl, ?_⟩
      refine ccst 22 (2) ⟨u355J, _, rfl⟩ rfl (by decide) (fun z9 h9 => ?_)
      exact cret ⟨u355J, _, rfl⟩ (Or.inl rfl) (hR _ _ _ _ hI r (by rw [ce]; exact h9) (Or.inl ⟨ψ1, c⟩) (by decide) (by decide))
    · refine ⟨2, 23, 5, 25, rfl, rfl, rfl, rfl, ?_⟩
      refine ccst 26 (3) ⟨u355J, _, rfl⟩ rfl (by decide) (fun z9 h9 => ?_)
      exact cret ⟨u355J, _, rfl⟩ (Or.inl rfl) (hR _ _ _ _ hI r (by rw [ce]; exact h9) (Or.inl ⟨ψ1, c⟩) (by decide) (by decide))
