/-! ===== the law's comparison ===== -/
section CE
variable {sc : Option (List Int32)} {M : amM} {pc a b d : Nat} {L : List (Option Value)} {st : List Value} {hp : amH} {Q : cQ}
theorem cistK (q : Nat) {k : Nat} {x : Int32} (h : xI M pc (.istore k) a b) (e : q = pc + 2) (hm : Nat.ble (k + 1) M.2.1 = true) (hw : cV sc d M q (lSet L k (.int x)) st hp Q) : cV sc d M pc L (.int x :: st) hp Q := by
  have hm : k < M.2.1 := Nat.le_of_ble_eq_true hm
  refine cstep h (fun cl hl => ⟨amSet1 cl k (.int x), ?_, lk_set hl k x⟩) hw
  subst e
  simp [amDo, amStep, amSt1, isI_int, hm]
theorem claldE (q : Nat) {x : Int32} (hH : bHk 84 bTT hp) (h : xI M pc .laload a b) (e : q = pc + 1) (hx : x.toInt = 0) (hw : ∀ z : Int64, z.toInt = rJ hp 83 0 → cV sc d M q L (.long z :: st) hp Q) : cV sc d M pc L (.int x :: .ref 83 :: st) hp Q := by
  obtain ⟨⟨t1, vs⟩, g1, g2, g3, g4⟩ := bHk_at hH (i := 83) (by decide) (D := (33, 1, [.inr (.inl 1)])) rfl
  have g2 : t1 = 33 := g2
  subst g2
  have g3 : vs.length = 1 := g3
  have hl2 : 0 < vs.length := by omega
  obtain ⟨y, k1, k2⟩ := g4 0 vs[0] (List.getElem?_eq_getElem hl2)
  rw [show bDy (33, 1, [.inr (.inl 1)]) 0 = some (.inr (.inl 1)) from rfl] at k1
  cases k1
  obtain ⟨w, ex⟩ := bT_J k2
  obtain ⟨e1, e2⟩ := rw_in (i := x) (n := 0) (m := vs.length) (by omega) hl2
  refine cstep h (fun cl hl => ⟨cl, ?_, hl⟩) (hw w ?_)
  · subst e
    simp [amDo, amStep, amALd, g1, e1, e2, amIsJ, List.getElem?_eq_getElem hl2, ex]
  · unfold rJ bFld
    rw [g1]
    dsimp only
    rw [List.getElem?_eq_getElem hl2, ex]
theorem clcmp (q : Nat) {x y : Int64} (h : xI M pc .lcmp a b) (e : q = pc + 1) (hw : ∀ z : Int32, ((z.toInt = -1 ∧ x.toInt < y.toInt) ∨ (z.toInt = 0 ∧ x.toInt = y.toInt) ∨ (z.toInt = 1 ∧ y.toInt < x.toInt)) → cV sc d M q L (.int z :: st) hp Q) : cV sc d M pc L (.long y :: .long x :: st) hp Q := by
  refine cstep h (fun cl hl => ⟨cl, ?_, hl⟩) (hw (lg_cmp x y) (lg_cmp_t x y))
  subst e
  simp [amDo, amStep, amLL]
theorem cifC (q : Nat) {c : Jvm.ClassFile.Cond} {i : Int} {x : Int32} (h : xI M pc (.ifCond c i) a b) (e : q = pc + 3) (hw1 : amIfP c x = true → cV sc d M a L st hp Q) (hw2 : amIfP c x = false → cV sc d M q L st hp Q) : cV sc d M pc L (.int x :: st) hp Q := by
  subst e
  cases hc : amIfP c x
  · refine cstep h (fun cl hl => ⟨cl, ?_, hl⟩) (hw2 hc)
    simp [amDo, amStep, amIf, hc]
  · refine cstep h (fun cl hl => ⟨cl, ?_, hl⟩) (hw1 hc)
    simp [amDo, amStep, amIf, hc]
theorem cif_eq (q : Nat) {i : Int} {x : Int32} (h : xI M pc (.ifCond .eq i) a b) (e : q = pc + 3) (hw1 : x.toInt = 0 → cV sc d M a L st hp Q) (hw2 : ¬ x.toInt = 0 → cV sc d M q L st hp Q) : cV sc d M pc L (.int x :: st) hp Q :=
  have z := z_if (c := .eq) (p := fun x => x = 0) (fun x => by simp only [amIfP, decide_eq_true_eq]; rw [x_eq]; rfl) (x := x)
  cifC q h e (fun u => hw1 (z.1 u)) (fun u => hw2 (z.2 u))
theorem cif_ne (q : Nat) {i : Int} {x : Int32} (h : xI M pc (.ifCond .ne i) a b) (e : q = pc + 3) (hw1 : ¬ x.toInt = 0 → cV sc d M a L st hp Q) (hw2 : x.toInt = 0 → cV sc d M q L st hp Q) : cV sc d M pc L (.int x :: st) hp Q :=
  have z := z_if (c := .ne) (p := fun x => ¬ x = 0) (fun x => by simp only [amIfP, decide_eq_true_eq]; rw [x_eq]; rfl) (x := x)
  cifC q h e (fun u => hw1 (z.1 u)) (fun u => hw2 (Decidable.not_not.mp (z.2 u)))
end CE
