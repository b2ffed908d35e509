/-! ===== trailing zeros ===== -/
section W342
variable {cl : amL} {hp : amH} {q : Int32 × Int32} {Q : (Option Value ⊕ Nat) → amH → Prop} {d : Nat} {G : Nat → Option amM}
theorem w342_19 (l0 : amGet cl 0 = some (.int q.1)) (l1 : amGet cl 1 = some (.int q.2))
    (hw : ∀ cl1, amGet cl1 0 = some (.int (nt16 q).1) → amGet cl1 1 = some (.int (nt16 q).2) → bWp G d am_m342 (amSeek am_m342.1 34) 34 cl1 [] hp Q) : bWp G d am_m342 (amSeek am_m342.1 19) 19 cl [] hp Q := by
  unfold nt16 at hw
  by_cases h : q.1 ≤ 65536
  · rw [if_pos h] at hw
    refine bWp_of 3 (fun f => ?_) (hw cl l0 l1)
    rw [s342_19]
    simp [amRun, amDo, amStep, amLd, l0, isI_int, amNext, amCmp, amCmpP, h]
  · rw [if_neg h] at hw
    have k0 : amGet (amSet1 cl 1 (.int (q.2 + 16))) 0 = some (.int q.1) := mg_ne l0 rfl (by decide)
    have hh := hw (amSet1 (amSet1 cl 1 (.int (q.2 + 16))) 0 (.int (ush q.1 16))) mg_eq (mg_ne mg_eq rfl (by decide))
    unfold ush at hh
    refine bWp_of 8 (fun f => ?_) hh
    rw [s342_19]
    simp [amRun, amDo, amStep, amLd, l0, l1, k0, isI_int, amNext, amCmp, amCmpP, h, amII, amInc, amSt1, p342b]
    simp [s342_34]
theorem w342_34 (l0 : amGet cl 0 = some (.int q.1)) (l1 : amGet cl 1 = some (.int q.2))
    (hw : ∀ cl1, amGet cl1 0 = some (.int (nt8 q).1) → amGet cl1 1 = some (.int (nt8 q).2) → bWp G d am_m342 (amSeek am_m342.1 49) 49 cl1 [] hp Q) : bWp G d am_m342 (amSeek am_m342.1 34) 34 cl [] hp Q := by
  unfold nt8 at hw
  by_cases h : q.1 ≤ 256
  · rw [if_pos h] at hw
    refine bWp_of 3 (fun f => ?_) (hw cl l0 l1)
    rw [s342_34]
    simp [amRun, amDo, amStep, amLd, l0, isI_int, amNext, amCmp, amCmpP, h]
  · rw [if_neg h] at hw
    have k0 : amGet (amSet1 cl 1 (.int (q.2 + 8))) 0 = some (.int q.1) := mg_ne l0 rfl (by decide)
    have hh := hw (amSet1 (amSet1 cl 1 (.int (q.2 + 8))) 0 (.int (ush q.1 8))) mg_eq (mg_ne mg_eq rfl (by decide))
    unfold ush at hh
    refine bWp_of 8 (fun f => ?_) hh
    rw [s342_34]
    simp [amRun, amDo, amStep, amLd, l0, l1, k0, isI_int, amNext, amCmp, amCmpP, h, amII, amInc, amSt1, p342b]
    simp [s342_49]
theorem w342_49 (l0 : amGet cl 0 = some (.int q.1)) (l1 : amGet cl 1 = some (.int q.2))
    (hw : ∀ cl1, amGet cl1 0 = some (.int (nt4 q).1) → amGet cl1 1 = some (.int (nt4 q).2) → bWp G d am_m342 (amSeek am_m342.1 62) 62 cl1 [] hp Q) : bWp G d am_m342 (amSeek am_m342.1 49) 49 cl [] hp Q := by
  unfold nt4 at hw
  by_cases h : q.1 ≤ 16
  · rw [if_pos h] at hw
    refine bWp_of 3 (fun f => ?_) (hw cl l0 l1)
    rw [s342_49]
    simp [amRun, amDo, amStep, amLd, l0, isI_int, amNext, amCmp, amCmpP, h]
  · rw [if_neg h] at hw
    have k0 : amGet (amSet1 cl 1 (.int (q.2 + 4))) 0 = some (.int q.1) := mg_ne l0 rfl (by decide)
    have hh := hw (amSet1 (amSet1 cl 1 (.int (q.2 + 4))) 0 (.int (ush q.1 4))) mg_eq (mg_ne mg_eq rfl (by decide))
    unfold ush at hh
    refine bWp_of 8 (fun f => ?_) hh
    rw [s342_49]
    simp [amRun, amDo, amStep, amLd, l0, l1, k0, isI_int, amNext, amCmp, amCmpP, h, amII, amInc, amSt1, p342b]
    simp [s342_62]
theorem w342_62 (l0 : amGet cl 0 = some (.int q.1)) (l1 : amGet cl 1 = some (.int q.2))
    (hw : ∀ cl1, amGet cl1 0 = some (.int (nt2 q).1) → amGet cl1 1 = some (.int (nt2 q).2) → bWp G d am_m342 (amSeek am_m342.1 74) 74 cl1 [] hp Q) : bWp G d am_m342 (amSeek am_m342.1 62) 62 cl [] hp Q := by
  unfold nt2 at hw
  by_cases h : q.1 ≤ 4
  · rw [if_pos h] at hw
    refine bWp_of 3 (fun f => ?_) (hw cl l0 l1)
    rw [s342_62]
    simp [amRun, amDo, amStep, amLd, l0, isI_int, amNext, amCmp, amCmpP, h]
  · rw [if_neg h] at hw
    have k0 : amGet (amSet1 cl 1 (.int (q.2 + 2))) 0 = some (.int q.1) := mg_ne l0 rfl (by decide)
    have hh := hw (amSet1 (amSet1 cl 1 (.int (q.2 + 2))) 0 (.int (ush q.1 2))) mg_eq (mg_ne mg_eq rfl (by decide))
    unfold ush at hh
    refine bWp_of 8 (fun f => ?_) hh
    rw [s342_62]
    simp [amRun, amDo, amStep, amLd, l0, l1, k0, isI_int, amNext, amCmp, amCmpP, h, amII, amInc, amSt1, p342b]
    simp [s342_74]
theorem w342_74 (l0 : amGet cl 0 = some (.int q.1)) (l1 : amGet cl 1 = some (.int q.2)) (hw : Q (.inl (some (.int (ntE q)))) hp) : bWp G d am_m342 (amSeek am_m342.1 74) 74 cl [] hp Q := by
  refine ⟨6, .inl (some (.int (ntE q))), hp, ?_, hw⟩
  rw [s342_74]
  simp [amRun, amDo, amStep, amLd, l0, l1, isI_int, amNext, amII, amRetV, narrow, p342r, bCnt, ntE, ush]
theorem w342_17 {x : Int32} (l0 : amGet cl 0 = some (.int x)) (hw : Q (.inl (some (.int (ntE (nt2 (nt4 (nt8 (nt16 (x, 1))))))))) hp) : bWp G d am_m342 (amSeek am_m342.1 17) 17 cl [] hp Q := by
  have h := w342_19 (G := G) (d := d) (hp := hp) (Q := Q) (q := (x, 1)) (cl := amSet1 cl 1 (.int 1)) (mg_ne l0 rfl (by decide)) mg_eq (fun c1 a1 b1 => w342_34 a1 b1 (fun c2 a2 b2 => w342_49 a2 b2 (fun c3 a3 b3 => w342_62 a3 b3 (fun c4 a4 b4 => w342_74 a4 b4 hw))))
  refine bWp_of 2 (fun f => ?_) h
  rw [s342_17]
  simp [amRun, amDo, amStep, isI_int, amNext, amSt1, p342b]
  simp [s342_19]
theorem w_ntz {x : Int32} (hw : Q (.inl (some (.int (ntF x)))) hp) : bWp G d am_m342 am_m342.1 0 [(0, .int x)] [] hp Q := by
  have key : bWp G d am_m342 (amSeek am_m342.1 8) 8 [(0, .int (nt0 x))] [] hp Q := by
    unfold ntF at hw
    generalize nt0 x = z at hw ⊢
    by_cases h : 0 < z
    · rw [if_pos h] at hw
      refine bWp_of 2 (fun f => ?_) (w342_17 (cl := [(0, .int z)]) rfl hw)
      rw [s342_8]
      simp [amRun, amDo, amStep, amLd, amGet, isI_int, amNext, amIf, amIfP, h]
    · rw [if_neg h] at hw
      refine ⟨6, .inl (some (.int (z &&& 32))), hp, ?_, hw⟩
      rw [s342_8]
      simp [amRun, amDo, amStep, amLd, amGet, isI_int, amNext, amIf, amIfP, h, amII, amRetV, narrow, p342r, bCnt]
  unfold nt0 at key
  refine bWp_of 8 (fun f => ?_) key
  conv => lhs; rw [s342_0]
  simp [amRun, amDo, amStep, amLd, amGet, isI_int, amNext, amII, amSt1, amSet1, p342b, Value.category]
  simp [s342_8]
end W342
def bitsOk (i : Nat) : Bool := match Nat.beq (bcF (Int32.ofNat i)).toInt.toNat 3 with
  | false => true
  | true => (decide ((ntF (Int32.ofNat i)).toInt < 15) && decide (0 ≤ (ntF (Int32.ofNat i)).toInt)) && (decide ((ntF (Int32.ofNat i &&& (Int32.ofNat i - 1))).toInt < 15) && decide (0 ≤ (ntF (Int32.ofNat i &&& (Int32.ofNat i - 1))).toInt))
