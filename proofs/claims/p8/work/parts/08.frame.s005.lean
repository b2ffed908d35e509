section AMF
variable {l : Launch} {D : va_G} {dA : Nat → ClassId} {sA : Nat → Nat} {G : Nat → Option amM} {X : Nat → Option amN}
theorem am_all (hlt : l.stackTraces = false) (hus : ∀ (ci : Nat) (r : vw_C), vwCl[ci]? = some r → ∀ w ∈ u_ws r.1 r.2.1 r.2.2, w ∈ amWL) (hcl : amClOk) (hGM : ∀ k M, G k = some M → M.2.1 ≤ 100) (hT : ∀ k N M, X k = some N → G k = some M → amMk G X N M) : ∀ f, amFR l D dA sA G X f := by
  intro f
  induction f with
  | zero =>
    intro p e R s m args below meth c A Q N M sc d n0 ad0 x hp1 mc ms C hs0 Er Et Ex cs pc ls st hp kc ks ad H locs lsA hcs h
    unfold amRun at h
    cases h
  | succ f ih => exact am_FR_succ hus hcl hGM ih (am_con hlt hT ih)
end AMF
