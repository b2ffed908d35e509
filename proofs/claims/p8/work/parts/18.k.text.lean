/-! ===== ways by hand: words, points of the text ===== -/
section XW
variable {M : amM} {pc a b d : Nat} {L : List (Option Value)} {st : List Value} {hp : amH} {Q : xQ}
theorem xldcW (q : Nat) {i : _} (h : xI M pc (.ldc i) a 1) (e : q = pc + 2) (hw : xV d M q L (.ref (amK + a) :: st) hp Q) : xV d M pc L st hp Q := by
  refine xstep h (fun cl hl => ⟨cl, ?_, hl⟩) hw
  subst e
  simp [amDo, amStep]
theorem xldcW3 (q : Nat) {i : _} (h : xI M pc (.ldc_w i) a 1) (e : q = pc + 3) (hw : xV d M q L (.ref (amK + a) :: st) hp Q) : xV d M pc L st hp Q := by
  refine xstep h (fun cl hl => ⟨cl, ?_, hl⟩) hw
  subst e
  simp [amDo, amStep]
def xS8 (st : List Value) : Bool := Nat.ble ((st.map fun v => v.category).sum) 8
theorem xlenS (q : Nat) {i : _} {r : Nat} {l : List Int32} (h : xI M pc (.invokevirtual i) a 7) (e : q = pc + 3) (hl : amWd r = some l ∧ l.length ≤ 100) (h8 : xS8 st = true) (hw : ∀ z : Int32, z.toInt = (l.length : Int) → xV d M q L (.int z :: st) hp Q) : xV d M pc L (.ref r :: st) hp Q := by
  refine xstep h (fun cl hcl => ⟨cl, ?_, hcl⟩) (hw (Int32.ofNat l.length) (Int32.toInt_ofNat_of_lt (by have := hl.2; omega)))
  subst e
  have h8 := Nat.le_of_ble_eq_true h8
  simp only [amDo, if_true, amLenS, hl.1]
  rw [if_pos h8]
theorem xchrS (q : Nat) {i : _} {r : Nat} {l : List Int32} {x : Int32} (h : xI M pc (.invokevirtual i) a 8) (e : q = pc + 3) (hl : amWd r = some l ∧ l.length ≤ 100) (h8 : xS8 st = true) (x0 : 0 ≤ x.toInt) (x1 : x.toInt < (l.length : Int)) (hw : ∀ z : Int32, xV d M q L (.int z :: st) hp Q) : xV d M pc L (.int x :: .ref r :: st) hp Q := by
  have hin := (rw_in (i := x) (n := x.toInt.toNat) (m := l.length) (by omega) (by omega)).2
  refine xstep h (fun cl hcl => ⟨cl, ?_, hcl⟩) (hw (l.getD x.toNatClampNeg 0))
  subst e
  have h8 := Nat.le_of_ble_eq_true h8
  simp only [amDo, amChrS, hl.1]
  rw [if_neg (by decide), if_pos trivial, if_pos ⟨hin, h8⟩]
end XW
theorem k_tl {d : Nat} {hp : amH} {R : xQ} (hH : bHk 84 bTT hp) (hA : PA hp) (hR : ∀ z : Int32, z.toInt = rN hp 66 26 - rN hp 66 27 → R (.inl (some (.int z))) hp) : xK d 243 [.ref 66] hp R := by
  obtain ⟨p1, p2, p3, p4⟩ := hA
  refine xin (M := am_m243) rfl rfl rfl ?_
  refine xald 1 ⟨u243, _, rfl⟩ rfl rfl ?_
  refine xgetI 4 hH ⟨u243, _, rfl⟩ rfl rfl (fun z1 h1 => ?_)
  refine xald 5 ⟨u243, _, rfl⟩ rfl rfl ?_
  refine xgetI 8 hH ⟨u243, _, rfl⟩ rfl rfl (fun z5 h5 => ?_)
  refine xsub 9 _ ⟨u243, _, rfl⟩ rfl rfl (by omega) (by omega) (fun z8 h8 => ?_)
  exact xret ⟨u243, _, rfl⟩ rfl (hR _ (by omega))
def wFa : List (Nat × Nat) := [(66, 24), (66, 25)]
theorem k_fa {d : Nat} {hp : amH} {R : xQ} {c : Int32} (hH : bHk 84 bTT hp) (hR : ∀ (z : Int32) hp1, z.toInt = 0 → bHk 84 bTT hp1 → bFr wFa hp hp1 → R (.inl (some (.int z))) hp1) : xK d 244 [.ref 66, .int c] hp R := by
  have b1 := aMin c
  have b2 := aMax c
  have b3 := rb_fld hH (f := 27) (lo := 2147483648) (hi := 2147484249) rfl
  refine xin (M := am_m244) rfl rfl rfl ?_
  refine xald 1 ⟨u244, _, rfl⟩ rfl rfl ?_
  refine xgetI 4 hH ⟨u244, _, rfl⟩ rfl rfl (fun z1 h1 => ?_)
  refine xif_ne 7 ⟨u244, _, rfl⟩ rfl (fun c4 => ?_) (fun c4 => ?_)
  · refine xcst 21 (0) ⟨u244, _, rfl⟩ rfl (by decide) (fun z20 h20 => ?_)
    exact xretB ⟨u244, _, rfl⟩ rfl (by omega) (hR _ _ (by omega) hH (bFr.refl _ _))
  · refine xald 8 ⟨u244, _, rfl⟩ rfl rfl ?_
    refine xild 9 ⟨u244, _, rfl⟩ rfl rfl ?_
    refine xputI 12 hH ⟨u244, _, rfl⟩ rfl rfl ⟨rfl, rfl⟩ (by omega) (by omega) (fun hp9 hH9 U9 => ?_)
    have n9 : rN hp9 66 27 = rN hp 66 27 := rU_ne U9 (by omega)
    refine xald 13 ⟨u244, _, rfl⟩ rfl rfl ?_
    refine xald 14 ⟨u244, _, rfl⟩ rfl rfl ?_
    refine xgetI 17 hH9 ⟨u244, _, rfl⟩ rfl rfl (fun z14 h14 => ?_)
    refine xputI 20 hH9 ⟨u244, _, rfl⟩ rfl rfl ⟨rfl, rfl⟩ (by omega) (by omega) (fun hp17 hH17 U17 => ?_)
    refine xcst 21 (0) ⟨u244, _, rfl⟩ rfl (by decide) (fun z20 h20 => ?_)
    exact xretB ⟨u244, _, rfl⟩ rfl (by omega) (hR _ _ (by omega) hH17 ((rU_fr U9 (by decide)).trans (rU_fr U17 (by decide))))
theorem l245 {d : Nat} {hp : amH} {R : xQ} {r : Nat} {l : List Int32} (hl : amWd r = some l ∧ l.length ≤ 100) (hH : bHk 84 bTT hp) (hA : PA hp) (hlen : rN hp 66 26 - rN hp 66 27 = (l.length : Int)) (hR : ∀ z : Int32, (z.toInt = 0 ∨ z.toInt = 1) → R (.inl (some (.int z))) hp) :
    ∀ (jj : Nat) (k : Int32), k.toInt + (jj : Int) = (l.length : Int) → 0 ≤ k.toInt → xV (d + 1) am_m245 23 [some (.ref 66), some (.ref r), some (.int k)] [] hp R := by
  obtain ⟨p1, p2, p3, p4⟩ := hA
  intro jj
  induction jj using Nat.strongRecOn with
  | ind jj ih =>
    intro k hjj k0
    have hl2 := hl.2
    refine xild 24 ⟨u245, _, rfl⟩ rfl rfl ?_
    refine xald 25 ⟨u245, _, rfl⟩ rfl rfl ?_
    refine xlenS 28 ⟨u245, _, rfl⟩ rfl hl rfl (fun z25 h25 => ?_)
    refine xcmp_ge 31 ⟨u245, _, rfl⟩ rfl (fun c28 => ?_) (fun c28 => ?_)
    · refine xcst 59 (1) ⟨u245, _, rfl⟩ rfl (by decide) (fun z58 h58 => ?_)
      exact xretB ⟨u245, _, rfl⟩ rfl (by omega) (hR _ (by omega))
    · refine xald 32 ⟨u245, _, rfl⟩ rfl rfl ?_
      refine xgetR 35 80 hH ⟨u245, _, rfl⟩ rfl rfl ?_
      refine xald 36 ⟨u245, _, rfl⟩ rfl rfl ?_
      refine xgetI 39 hH ⟨u245, _, rfl⟩ rfl rfl (fun z36 h36 => ?_)
      refine xild 40 ⟨u245, _, rfl⟩ rfl rfl ?_
      refine xadd 41 _ ⟨u245, _, rfl⟩ rfl rfl (by omega) (by omega) (fun z40 h40 => ?_)
      refine xiald 42 (z40).toInt.toNat hH ⟨u245, _, rfl⟩ rfl (by decide) rfl (by omega) (by omega) (fun z41 h41 => ?_)
      refine xald 43 ⟨u245, _, rfl⟩ rfl rfl ?_
      refine xild 44 ⟨u245, _, rfl⟩ rfl rfl ?_
      refine xchrS 47 ⟨u245, _, rfl⟩ rfl hl rfl (by omega) (by omega) (fun z44 => ?_)
      refine xcmp_eq 50 ⟨u245, _, rfl⟩ rfl (fun c47 => ?_) (fun c47 => ?_)
      · refine xinc 55 (1) ⟨u245, _, rfl⟩ rfl rfl rfl (by decide) (by omega) (by omega) (fun z52 h52 => ?_)
        refine xgoto ⟨u245, _, rfl⟩ ?_
        exact ih (jj - 1) (by omega) _ (by omega) (by omega)
      · refine xcst 51 (0) ⟨u245, _, rfl⟩ rfl (by decide) (fun z50 h50 => ?_)
        exact xretB ⟨u245, _, rfl⟩ rfl (by omega) (hR _ (by omega))
theorem k_isw {d : Nat} {hp : amH} {R : xQ} {r : Nat} {l : List Int32} (hok : amOk 84 (.ref r) = true) (hl : amWd r = some l ∧ l.length ≤ 100) (hH : bHk 84 bTT hp) (hA : PA hp) (hR : ∀ z : Int32, (z.toInt = 0 ∨ z.toInt = 1) → R (.inl (some (.int z))) hp) : xK (d + 1) 245 [.ref 66, .ref r] hp R := by
  refine xin (M := am_m245) rfl rfl (by unfold xAv; simp only [List.all_cons, List.all_nil, hok]; rfl) ?_
  refine xald 1 ⟨u245, _, rfl⟩ rfl rfl ?_
  refine xgetI 4 hH ⟨u245, _, rfl⟩ rfl rfl (fun z1 h1 => ?_)
  refine xcst 5 (1) ⟨u245, _, rfl⟩ rfl (by decide) (fun z4 h4 => ?_)
  refine xcmp_ne 8 ⟨u245, _, rfl⟩ rfl (fun c5 => ?_) (fun c5 => ?_)
  · refine xcst 20 (0) ⟨u245, _, rfl⟩ rfl (by decide) (fun z19 h19 => ?_)
    exact xretB ⟨u245, _, rfl⟩ rfl (by omega) (hR _ (by omega))
  · refine xald 9 ⟨u245, _, rfl⟩ rfl rfl ?_
    refine xcall 12 [.ref 66] [] hH ⟨u245, _, rfl⟩ rfl rfl rfl rfl rfl (k_tl hH hA (fun z9 h9 => ⟨_, rfl, ?_⟩))
    refine xald 13 ⟨u245, _, rfl⟩ rfl rfl ?_
    refine xlenS 16 ⟨u245, _, rfl⟩ rfl hl rfl (fun z13 h13 => ?_)
    refine xcmp_eq 19 ⟨u245, _, rfl⟩ rfl (fun c16 => ?_) (fun c16 => ?_)
    · refine xcst 22 (0) ⟨u245, _, rfl⟩ rfl (by decide) (fun z21 h21 => ?_)
      refine xist 23 ⟨u245, _, rfl⟩ rfl rfl ?_
      exact l245 hl hH hA (by omega) hR l.length _ (by omega) (by omega)
    · refine xcst 20 (0) ⟨u245, _, rfl⟩ rfl (by decide) (fun z19 h19 => ?_)
      exact xretB ⟨u245, _, rfl⟩ rfl (by omega) (hR _ (by omega))
