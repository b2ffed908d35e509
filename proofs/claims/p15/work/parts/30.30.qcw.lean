/-! ===== the law's locals of two places ===== -/
def cWl (cl : amL) (D : List (Nat × Value)) : Prop := ∀ x, x ∈ D → amGet cl x.1 = some x.2
def cW (sc : Option (List Int32)) (d : Nat) (M : amM) (pc : Nat) (L : List (Option Value)) (D : List (Nat × Value)) (st : List Value) (hp : amH) (Q : cQ) : Prop := ∀ cl, lk cl L → cWl cl D → ∀ kc ks, ∃ f y hp1 mc ms, amRun amGG sc f d M (amSeek M.1 pc) pc cl st hp kc ks = some (y, hp1, kc + mc, ks + ms) ∧ Q y hp1 mc ms
theorem cW_in {sc : Option (List Int32)} {M : amM} {pc d : Nat} {L : List (Option Value)} {st : List Value} {hp : amH} {Q : cQ} (hw : cW sc d M pc L [] st hp Q) : cV sc d M pc L st hp Q := fun cl hl => hw cl hl (fun x z => by cases z)
theorem cW_of {sc : Option (List Int32)} {M : amM} {pc d : Nat} {L : List (Option Value)} {D : List (Nat × Value)} {st : List Value} {hp : amH} {Q : cQ} (hw : cV sc d M pc L st hp Q) : cW sc d M pc L D st hp Q := fun cl hl _ => hw cl hl
theorem cWstep {sc : Option (List Int32)} {M : amM} {pc : Nat} {i : Instr} {a b d q : Nat} {L : List (Option Value)} {D D1 : List (Nat × Value)} {st st1 : List Value} {hp hp1 : amH} {Q : cQ} (h : xI M pc i a b)
    (hs : ∀ cl, lk cl L → cWl cl D → ∃ cl1, amDo amGG M sc i a b pc cl st hp = some (.inl ((q, cl1, st1, hp1), 0, 0)) ∧ lk cl1 L ∧ cWl cl1 D1) (hw : cW sc d M q L D1 st1 hp1 Q) : cW sc d M pc L D st hp Q := by
  intro cl hl hd kc ks
  obtain ⟨hu, r, hr⟩ := h
  obtain ⟨cl1, e, hl1, hd1⟩ := hs cl hl hd
  obtain ⟨f, y, hp2, mc, ms, g1, g2⟩ := hw cl1 hl1 hd1 kc ks
  refine ⟨f + 1, y, hp2, mc, ms, ?_, g2⟩
  rw [hr]
  simp only [amRun, if_true, e, Nat.add_zero]
  rw [bUp_next hu (xI_suf hr)]
  exact g1
section CW
variable {sc : Option (List Int32)} {M : amM} {pc a b d : Nat} {L : List (Option Value)} {D : List (Nat × Value)} {st : List Value} {hp : amH} {Q : cQ}
theorem cWl2 {cl : amL} {k : Nat} {v : Value} (hD : D.all (fun y => Nat.ble (y.1 + 2) k) = true) (hd : cWl cl D) : cWl (amSet2 cl k v) ((k, v) :: D) := by
  intro y hy
  rcases List.mem_cons.mp hy with rfl | hy
  · unfold amSet2
    unfold amGet
    rw [if_pos rfl]
  · have g := Nat.le_of_ble_eq_true (List.all_eq_true.mp hD y hy)
    exact mq_ne2 (hd y hy) (fun z => by omega) (by omega) (by omega)
theorem cWdst (q : Nat) {k : Nat} {x : UInt64} (h : xI M pc (.dstore k) a b) (e : q = pc + 2) (hk : Nat.ble L.length k = true) (hm : Nat.ble (k + 2) M.2.1 = true) (hD : D.all (fun y => Nat.ble (y.1 + 2) k) = true) (hw : cW sc d M q L ((k, .double x) :: D) st hp Q) : cW sc d M pc L D (.double x :: st) hp Q := by
  have hm : k + 1 < M.2.1 := Nat.le_of_ble_eq_true hm
  refine cWstep h (fun cl hl hd => ⟨amSet2 cl k (.double x), ?_, lk_up2 hl hk rfl, cWl2 hD hd⟩) hw
  subst e
  simp [amDo, amStep, amSt2, amIsD, hm]
theorem cWlst (q : Nat) {k : Nat} {x : Int64} (h : xI M pc (.lstore k) a b) (e : q = pc + 2) (hk : Nat.ble L.length k = true) (hm : Nat.ble (k + 2) M.2.1 = true) (hD : D.all (fun y => Nat.ble (y.1 + 2) k) = true) (hw : cW sc d M q L ((k, .long x) :: D) st hp Q) : cW sc d M pc L D (.long x :: st) hp Q := by
  have hm : k + 1 < M.2.1 := Nat.le_of_ble_eq_true hm
  refine cWstep h (fun cl hl hd => ⟨amSet2 cl k (.long x), ?_, lk_up2 hl hk rfl, cWl2 hD hd⟩) hw
  subst e
  simp [amDo, amStep, amSt2, amIsJ, hm]
theorem cWdld (q : Nat) {k : Nat} {x : UInt64} (h : xI M pc (.dload k) a b) (e : q = pc + 2) (hD : ∃ j : Nat, D[j]? = some (k, Value.double x)) (hw : cW sc d M q L D (.double x :: st) hp Q) : cW sc d M pc L D st hp Q := by
  refine cWstep h (fun cl hl hd => ⟨cl, ?_, hl, hd⟩) hw
  have hg : amGet cl k = some (.double x) := hd (k, .double x) (List.mem_of_getElem? hD.choose_spec)
  subst e
  simp [amDo, amStep, amLd, hg, amIsD]
theorem cWlld (q : Nat) {k : Nat} {x : Int64} (h : xI M pc (.lload k) a b) (e : q = pc + 2) (hD : ∃ j : Nat, D[j]? = some (k, Value.long x)) (hw : cW sc d M q L D (.long x :: st) hp Q) : cW sc d M pc L D st hp Q := by
  refine cWstep h (fun cl hl hd => ⟨cl, ?_, hl, hd⟩) hw
  have hg : amGet cl k = some (.long x) := hd (k, .long x) (List.mem_of_getElem? hD.choose_spec)
  subst e
  simp [amDo, amStep, amLd, hg, amIsJ]
theorem cWald (q : Nat) {n : Fin 4} {x : Nat} (h : xI M pc (.aload_n n) a b) (e : q = pc + 1) (l : lAt L (n : Nat) = some (some (.ref x))) (hw : cW sc d M q L D (.ref x :: st) hp Q) : cW sc d M pc L D st hp Q := by
  refine cWstep h (fun cl hl hd => ⟨cl, ?_, hl, hd⟩) hw
  have hg := (hl.2 _ _ l).2
  subst e
  simp [amDo, amStep, amLd, hg, isA_ref]
theorem cWdcmp (q : Nat) {op : _} {x y : UInt64} (h : xI M pc (.dcmp op) a b) (e : q = pc + 1) (hw : cW sc d M q L D (.int (Op.cmpValue (FP.dcmp x y) op) :: st) hp Q) : cW sc d M pc L D (.double y :: .double x :: st) hp Q := by
  refine cWstep h (fun cl hl hd => ⟨cl, ?_, hl, hd⟩) hw
  subst e
  simp [amDo, amStep]
theorem cWf2d (q : Nat) {x : UInt32} (h : xI M pc .f2d a b) (e : q = pc + 1) (hx : FP.Core.decode FP.Core.b32 x.toNat ≠ .nan) (hw : cW sc d M q L D (.double (FP.f2d x) :: st) hp Q) : cW sc d M pc L D (.float x :: st) hp Q := by
  refine cWstep h (fun cl hl hd => ⟨cl, ?_, hl, hd⟩) hw
  subst e
  simp only [amDo, amStep]
  rw [if_pos (fl_f2d hx)]
  rfl
theorem cWgoto {i : Int} (h : xI M pc (.goto i) a b) (hw : cW sc d M a L D st hp Q) : cW sc d M pc L D st hp Q := by
  refine cWstep h (fun cl hl hd => ⟨cl, ?_, hl, hd⟩) hw
  simp [amDo, amStep]
theorem cWif_eq (q : Nat) {i : Int} {x : Int32} (h : xI M pc (.ifCond .eq i) a b) (e : q = pc + 3) (hw1 : x = 0 → cW sc d M a L D st hp Q) (hw2 : ¬ x = 0 → cW sc d M q L D st hp Q) : cW sc d M pc L D (.int x :: st) hp Q := by
  subst e
  by_cases hx : x = 0
  · refine cWstep h (fun cl hl hd => ⟨cl, ?_, hl, hd⟩) (hw1 hx)
    simp [amDo, amStep, amIf, amIfP, hx]
  · refine cWstep h (fun cl hl hd => ⟨cl, ?_, hl, hd⟩) (hw2 hx)
    simp [amDo, amStep, amIf, amIfP, hx]
theorem cWif_ne (q : Nat) {i : Int} {x : Int32} (h : xI M pc (.ifCond .ne i) a b) (e : q = pc + 3) (hw1 : ¬ x = 0 → cW sc d M a L D st hp Q) (hw2 : x = 0 → cW sc d M q L D st hp Q) : cW sc d M pc L D (.int x :: st) hp Q := by
  subst e
  by_cases hx : x = 0
  · refine cWstep h (fun cl hl hd => ⟨cl, ?_, hl, hd⟩) (hw2 hx)
    simp [amDo, amStep, amIf, amIfP, hx]
  · refine cWstep h (fun cl hl hd => ⟨cl, ?_, hl, hd⟩) (hw1 hx)
    simp [amDo, amStep, amIf, amIfP, hx]
/-- a call that returns -/
theorem cWcall {q : Nat} {k kd : Nat} {i : Instr} {N : amM} (av rest : List Value) (hH : bHk 84 bTT hp) (h : xI M pc i k b) (hi : (∃ j, i = .invokevirtual j ∧ kd = 0 ∧ ¬ b = 7 ∧ ¬ b = 8) ∨ (∃ j, i = .invokestatic j ∧ kd = 1 ∧ ¬ b = 6)) (e : q = pc + 3) (hst : st = av.reverse ++ rest) (hN : amGG k = some N)
    (hc : N.2.2.1 = av.length ∧ Nat.ble ((av.reverse.map fun v => v.category).sum) N.2.1 = true ∧ Nat.ble ((rest.map fun v => v.category).sum) 8 = true) (hr : amOkS 84 rest = true) (hrec : amRecv kd N.2.2.2.2.2.2 hp av = true)
    (hk : cK d k av hp (fun y hp1 mc ms => ∃ v, y = .inl v ∧ cW sc (d + 1) M q L D (v.toList ++ rest) hp1 (fun y2 hp2 mc2 ms2 => Q y2 hp2 (mc + mc2) (ms + ms2)))) : cW sc (d + 1) M pc L D st hp Q := by
  intro cl hl hd kc ks
  obtain ⟨hu, r, hr2⟩ := h
  obtain ⟨N', hN', f1, y, hp1, mc, ms, hw1, v, rfl, hv⟩ := hk
  rw [hN] at hN'
  cases hN'
  obtain ⟨c1, c3, c4⟩ := hc
  have c3 := Nat.le_of_ble_eq_true c3
  have c4 := Nat.le_of_ble_eq_true c4
  have hlen : av.reverse.length = N.2.2.1 := by rw [List.length_reverse, c1]
  have t1 : st.take N.2.2.1 = av.reverse := by rw [hst, ← hlen, List.take_left]
  have t2 : st.drop N.2.2.1 = rest := by rw [hst, ← hlen, List.drop_left]
  have hcall : amCall amGG kd k cl st hp = some (.inr (.inr (.inr (k, av, rest)))) := by
    unfold amCall
    rw [hN]
    dsimp only
    rw [t1, t2, List.reverse_reverse, if_pos]
    refine ⟨by rw [hst, List.length_append]; omega, c3, ?_, c4⟩
    rw [hH.1, hl.1, hr, hrec]
    rfl
  have hdo : amDo amGG M sc i k b pc cl st hp = some (.inr (.inr (.inr (k, av, rest)))) := by
    rcases hi with ⟨j, rfl, rfl, z1, z2⟩ | ⟨j, rfl, rfl, z1⟩
    · simp only [amDo, z1, z2, if_false]; exact hcall
    · simp only [amDo, z1, if_false]; exact hcall
  rw [hr2]
  obtain ⟨f2, y2, hp2, mc2, ms2, g1, g2⟩ := hv cl hl hd (kc + mc) (ks + ms)
  refine ⟨max f1 f2 + 1, y2, hp2, mc + mc2, ms + ms2, ?_, g2⟩
  have w1 := amRun_more _ _ _ _ _ _ _ _ _ _ _ _ hw1 (max f1 f2) d (Nat.le_max_left _ _) (Nat.le_refl _)
  have w2 := amRun_more _ _ _ _ _ _ _ _ _ _ _ _ g1 (max f1 f2) (d + 1) (Nat.le_max_right _ _) (Nat.le_refl _)
  simp only [amRun, if_true, hdo, hN, w1]
  rw [bUp_next hu (xI_suf hr2), ← e, w2, Nat.add_assoc, Nat.add_assoc]
end CW
theorem qKv {d k : Nat} {av : List Value} {hp : amH} {S : cQ} {Φ : Value → amH → Prop} (h : ∀ R : xQ, (∀ z hp1, Φ z hp1 → R (.inl (some z)) hp1) → xK d k av hp R) (hS : ∀ z hp1, Φ z hp1 → S (.inl (some z)) hp1 0 0) : cK d k av hp S := by
  refine cK_mono (cK_of (h (fun y hp1 => ∃ z, y = .inl (some z) ∧ Φ z hp1) (fun z hp1 g => ⟨z, rfl, g⟩))) (fun y hp1 mc ms hh => ?_)
  obtain ⟨rfl, rfl, z, rfl, g⟩ := hh
  exact hS z hp1 g
