/-! ===== ways by hand: words, points of the text ===== -/
section XW
variable {M : amM} {pc a b d : Nat} {L : List (Option Value)} {st : List Value} {hp : amH} {Q : xQ}
theorem xldcW (q : Nat) {i : _} (h : xI M pc (.ldc i) a 1) (e : q = pc + 2) (hw : xV d M q L (.ref (amK + a) :: st) hp Q) : xV d M pc L st hp Q := by
  refine xstep h (fun cl hl => ⟨cl, ?_, hl⟩) hw
  subst e
  simp [amDo, amStep]
theorem xldcW3 (q : Nat) {i : _} (h : xI M pc (.ldc_w i) a 1) (e : q = pc + 3) (hw : xV d M q L (.ref (amK + a) :: st) hp Q) : xV d M pc L st hp Q := by
  refine xstep h (fun cl hl => ⟨cl, ?_, hl⟩) hw
  subst e
  simp [amDo, amStep]
def xS8 (st : List Value) : Bool := Nat.ble ((st.map fun v => v.category).sum) 8
theorem xlenS (q : Nat) {i : _} {r : Nat} {l : List Int32} (h : xI M pc (.invokevirtual i) a 7) (e : q = pc + 3) (hl : amWd r = some l ∧ l.length ≤ 100) (h8 : xS8 st = true) (hw : ∀ z : Int32, z.toInt = (l.length : Int) → xV d M q L (.int z :: st) hp Q) : xV d M pc L (.ref r :: st) hp Q := by
  refine xstep h (fun cl hcl => ⟨cl, ?_, hcl⟩) (hw (Int32.ofNat l.length) (Int32.toInt_ofNat_of_lt (by have := hl.2; omega)))
  subst e
  have h8 := Nat.le_of_ble_eq_true h8
  simp only [amDo, if_true, amLenS, hl.1]
  rw [if_pos h8]
end XW
def wFa : List (Nat × Nat) := [(66, 24), (66, 25)]
