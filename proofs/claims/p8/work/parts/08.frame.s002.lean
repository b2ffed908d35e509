section AMF
variable {l : Launch} {D : va_G} {dA : Nat → ClassId} {sA : Nat → Nat} {G : Nat → Option amM} {X : Nat → Option amN}
theorem amDrop_ls {ad : Nat → Nat} {ls : amL} {i : Nat} {nL : Nat} {v : Value} {lsA : Array Slot} (h : lv_has lsA nL ((i, v) :: (amLs ad ls).filter (fun q => !(q.1 == i) && !(q.1 + 1 == i && q.2.category == 2)))) : lv_has lsA nL (amLs ad (amDrop ls i)) := by
  refine ⟨h.1, h.2.1, fun q hq => h.2.2 q (List.mem_cons_of_mem _ ?_)⟩
  have e : amLs ad (amDrop ls i) = (amLs ad ls).filter (fun q => !(q.1 == i) && !(q.1 + 1 == i && q.2.category == 2)) := by
    simp [amLs, amDrop, List.filter_map, Function.comp_def, amV_cat]
  rw [← e]
  exact hq
end AMF
