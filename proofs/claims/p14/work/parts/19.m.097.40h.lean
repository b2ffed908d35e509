/-! ##### 19.m.097.40h ##### -/
section
/-! ===== the reference switches along a cycle ===== -/
theorem u230E : bUp 0 am_m230.1 = true := by decide +kernel
theorem u259E : bUp 0 am_m259.1 = true := by decide +kernel
theorem u300E : bUp 0 am_m300.1 = true := by decide +kernel
theorem u301E : bUp 0 am_m301.1 = true := by decide +kernel
theorem rg_sp {f : Nat → Nat} {k : Nat} : ∀ m, ∃ R, (List.range (k + 1 + m)).map f = (List.range k).map f ++ f k :: R
  | 0 => ⟨[], by rw [Nat.add_zero, List.range_succ, List.map_append]; rfl⟩
  | m + 1 => by
    obtain ⟨R, e⟩ := rg_sp (f := f) (k := k) m
    exact ⟨R ++ [f (k + 1 + m)], by rw [show k + 1 + (m + 1) = (k + 1 + m) + 1 by omega, List.range_succ, List.map_append, e]; simp⟩
theorem rk_mod {V x a b k : Nat} {T : sT} (hT : sOk V T) (hp : 0 < cyL T a b x) (hk : k < cyL T a b x) : rk T a b x ((k + 1) % cyL T a b x) = rk T a b x (k + 1) := by
  by_cases g : k + 1 < cyL T a b x
  · rw [Nat.mod_eq_of_lt g]
  · rw [show k + 1 = cyL T a b x by omega, Nat.mod_self, cy_c hT hp]
    rfl
theorem l230y {d V x a b : Nat} {T : sT} {ty : Nat → Int} {hp0 : amH} {R : xQ} {wa wb : Int32} (hT : sOk V T) (ha : wa.toInt = (a : Int)) (hb : wb.toInt = (b : Int)) (hab : ¬ a = b) (hx : x < V) (ho : offP T a b x) (hp0c : 0 < cyL T a b x) (h15 : cyL T a b x ≤ 15) (hm : rN hp0 66 17 = ((cyL T a b x : Nat) : Int)) (hr : ∀ k, k < cyL T a b x → rN hp0 78 k = ((rk T a b x k : Nat) : Int))
    (hR : ∀ (w : Int32) hp1, bHk 84 bTT hp1 → P0 hp1 → bFr [(67, 999)] hp0 hp1 → rowOk (rN hp1 67) (V, uTs T (cyA T a b x (cyL T a b x)), ty) → xV (d + 2) am_m230 50 [some (.ref 66), some (.int wa), some (.int wb), some (.int w)] [] hp1 R) :
    ∀ (jj k : Nat) (w : Int32) (hp : amH), w.toInt = (k : Int) → k + jj = cyL T a b x → bHk 84 bTT hp → P0 hp → bFr [(67, 999)] hp0 hp → rowOk (rN hp 67) (V, uTs T (cyA T a b x k), ty) → xV (d + 2) am_m230 2 [some (.ref 66), some (.int wa), some (.int wb), some (.int w)] [] hp R := by
  have hV := hT.2.1
  intro jj
  induction jj with
  | zero =>
    intro k w hp hw hj hH hP hF hC
    have m1 : rN hp 66 17 = ((cyL T a b x : Nat) : Int) := (r_fr hF rfl).trans hm
    have ek : k = cyL T a b x := by omega
    rw [ek] at hC
    refine xild 3 ⟨u230E, _, rfl⟩ rfl rfl ?_
    refine xald 4 ⟨u230E, _, rfl⟩ rfl rfl ?_
    refine xgetI 7 hH ⟨u230E, _, rfl⟩ rfl rfl (fun z4 h4 => ?_)
    refine xcmp_ge 10 ⟨u230E, _, rfl⟩ rfl (fun c7 => ?_) (fun c7 => ?_)
    · exact hR _ hp hH hP hF hC
    · omega
  | succ jj ih =>
    intro k w hp hw hj hH hP hF hC
    have m1 : rN hp 66 17 = ((cyL T a b x : Nat) : Int) := (r_fr hF rfl).trans hm
    obtain ⟨m, em⟩ : ∃ m, (k + 1) % cyL T a b x = m := ⟨_, rfl⟩
    have ml : m < cyL T a b x := by rw [← em]; exact Nat.mod_lt _ hp0c
    have rm : rN hp 78 m = ((rk T a b x (k + 1) : Nat) : Int) := by
      rw [r_fr hF rfl, hr m ml, ← em, rk_mod hT hp0c (by omega)]
    have rkk : rN hp 78 k = ((rk T a b x k : Nat) : Int) := (r_fr hF rfl).trans (hr k (by omega))
    obtain ⟨f1, f2, f3⟩ := cy_f hT hx ho hp0c k
    obtain ⟨g1, g2, g3⟩ := cy_f hT hx ho hp0c (k + 1)
    have e : uTs T (cyA T a b x k) (abS a b (pr2 false k)) (rk T a b x k) = ((rk T a b x (k + 1) : Nat) : Int) := by
      rw [uTs_out (fun m hm => ?_)]
      · exact f3
      · obtain ⟨j, hj1, e⟩ := List.mem_map.mp hm
        have hj1 := List.mem_range.mp hj1
        rw [← e]
        refine cy_dj hT hab hx ho hp0c (by omega) (by omega) (by omega) _ _ (in2_3.mpr ⟨?_, Or.inl rfl, Or.inr (Or.inl rfl)⟩)
        exact (st_in hT f3).2.2.2.2.1
    have eT : uTs T (cyA T a b x (k + 1)) = sTake (uTs T (cyA T a b x k)) (abS a b (pr2 false k)) (rk T a b x k) (rk T a b x (k + 1)) := by
      rw [cyA_s, uTs_app]
      exact uTake_3 _
    refine xild 3 ⟨u230E, _, rfl⟩ rfl rfl ?_
    refine xald 4 ⟨u230E, _, rfl⟩ rfl rfl ?_
    refine xgetI 7 hH ⟨u230E, _, rfl⟩ rfl rfl (fun z4 h4 => ?_)
    refine xcmp_ge 10 ⟨u230E, _, rfl⟩ rfl (fun c7 => ?_) (fun c7 => ?_)
    · omega
    · refine xald 11 ⟨u230E, _, rfl⟩ rfl rfl ?_
      refine xild 12 ⟨u230E, _, rfl⟩ rfl rfl ?_
      refine xcst 13 (2) ⟨u230E, _, rfl⟩ rfl (by decide) (fun z12 h12 => ?_)
      refine xrem 14 (Int32.toInt w % 2) ⟨u230E, _, rfl⟩ rfl (by omega) (by omega) (by rw [h12]) (fun z13 h13 => ?_)
      refine xif_ne 17 ⟨u230E, _, rfl⟩ rfl (fun c14 => ?_) (fun c14 => ?_)
      · refine xild 22 ⟨u230E, _, rfl⟩ rfl rfl ?_
        refine xald 23 ⟨u230E, _, rfl⟩ rfl rfl ?_
        refine xgetR 26 78 hH ⟨u230E, _, rfl⟩ rfl rfl ?_
        refine xild 27 ⟨u230E, _, rfl⟩ rfl rfl ?_
        refine xiald 28 (w).toInt.toNat hH ⟨u230E, _, rfl⟩ rfl (by decide) rfl (by omega) (by omega) (fun z27 h27 => ?_)
        refine xald 29 ⟨u230E, _, rfl⟩ rfl rfl ?_
        refine xgetR 32 78 hH ⟨u230E, _, rfl⟩ rfl rfl ?_
        refine xild 33 ⟨u230E, _, rfl⟩ rfl rfl ?_
        refine xcst 34 (1) ⟨u230E, _, rfl⟩ rfl (by decide) (fun z33 h33 => ?_)
        refine xadd 35 _ ⟨u230E, _, rfl⟩ rfl rfl (by omega) (by omega) (fun z34 h34 => ?_)
        refine xald 36 ⟨u230E, _, rfl⟩ rfl rfl ?_
        refine xgetI 39 hH ⟨u230E, _, rfl⟩ rfl rfl (fun z36 h36 => ?_)
        refine xrem 40 (_) ⟨u230E, _, rfl⟩ rfl (by omega) (by omega) (rfl) (fun z39 h39 => ?_)
        have i39 : z39.toInt = ((m : Nat) : Int) := by rw [h39, show z34.toInt = ((k + 1 : Nat) : Int) by omega, show z36.toInt = ((cyL T a b x : Nat) : Int) by omega, ← em]; rfl
        refine xiald 41 (z39).toInt.toNat hH ⟨u230E, _, rfl⟩ rfl (by decide) rfl (by omega) (by omega) (fun z40 h40 => ?_)
        rw [show z39.toInt.toNat = m by omega, rm] at h40
        rw [show w.toInt.toNat = k by omega, rkk] at h27
        refine xcall 44 [.ref 66, .int _, .int _, .int _] [] hH ⟨u230E, _, rfl⟩ rfl rfl rfl rfl rfl (k_tkR hH hP hC (x := abS a b (pr2 false k)) (y := rk T a b x k) (z := rk T a b x (k + 1)) (by rw [sAx]; split <;> omega) h27 h40 e (fun hp41 hH41 P41 F41 C41 => ⟨_, rfl, ?_⟩))
        rw [← eT] at C41
        refine xinc 47 (1) ⟨u230E, _, rfl⟩ rfl rfl rfl (by decide) (by omega) (by omega) (fun z44 h44 => ?_)
        refine xgoto ⟨u230E, _, rfl⟩ ?_
        exact ih (k + 1) z44 hp41 (by omega) (by omega) hH41 P41 (hF.trans F41) C41
      · refine xild 18 ⟨u230E, _, rfl⟩ rfl rfl ?_
        refine xgoto ⟨u230E, _, rfl⟩ ?_
        refine xald 23 ⟨u230E, _, rfl⟩ rfl rfl ?_
        refine xgetR 26 78 hH ⟨u230E, _, rfl⟩ rfl rfl ?_
        refine xild 27 ⟨u230E, _, rfl⟩ rfl rfl ?_
        refine xiald 28 (w).toInt.toNat hH ⟨u230E, _, rfl⟩ rfl (by decide) rfl (by omega) (by omega) (fun z27 h27 => ?_)
        refine xald 29 ⟨u230E, _, rfl⟩ rfl rfl ?_
        refine xgetR 32 78 hH ⟨u230E, _, rfl⟩ rfl rfl ?_
        refine xild 33 ⟨u230E, _, rfl⟩ rfl rfl ?_
        refine xcst 34 (1) ⟨u230E, _, rfl⟩ rfl (by decide) (fun z33 h33 => ?_)
        refine xadd 35 _ ⟨u230E, _, rfl⟩ rfl rfl (by omega) (by omega) (fun z34 h34 => ?_)
        refine xald 36 ⟨u230E, _, rfl⟩ rfl rfl ?_
        refine xgetI 39 hH ⟨u230E, _, rfl⟩ rfl rfl (fun z36 h36 => ?_)
        refine xrem 40 (_) ⟨u230E, _, rfl⟩ rfl (by omega) (by omega) (rfl) (fun z39 h39 => ?_)
        have i39 : z39.toInt = ((m : Nat) : Int) := by rw [h39, show z34.toInt = ((k + 1 : Nat) : Int) by omega, show z36.toInt = ((cyL T a b x : Nat) : Int) by omega, ← em]; rfl
        refine xiald 41 (z39).toInt.toNat hH ⟨u230E, _, rfl⟩ rfl (by decide) rfl (by omega) (by omega) (fun z40 h40 => ?_)
        rw [show z39.toInt.toNat = m by omega, rm] at h40
        rw [show w.toInt.toNat = k by omega, rkk] at h27
        refine xcall 44 [.ref 66, .int _, .int _, .int _] [] hH ⟨u230E, _, rfl⟩ rfl rfl rfl rfl rfl (k_tkR hH hP hC (x := abS a b (pr2 false k)) (y := rk T a b x k) (z := rk T a b x (k + 1)) (by rw [sAx]; split <;> omega) h27 h40 e (fun hp41 hH41 P41 F41 C41 => ⟨_, rfl, ?_⟩))
        rw [← eT] at C41
        refine xinc 47 (1) ⟨u230E, _, rfl⟩ rfl rfl rfl (by decide) (by omega) (by omega) (fun z44 h44 => ?_)
        refine xgoto ⟨u230E, _, rfl⟩ ?_
        exact ih (k + 1) z44 hp41 (by omega) (by omega) hH41 P41 (hF.trans F41) C41
theorem l230z {d V x a b : Nat} {T T0 : sT} {ty : Nat → Int} {hp0 : amH} {R : xQ} {wa wb : Int32} (hT : sOk V T) (aV : a < V) (bV : b < V) (ha : wa.toInt = (a : Int)) (hb : wb.toInt = (b : Int)) (hx : x < V) (ho : offP T a b x) (hp0c : 0 < cyL T a b x) (h15 : cyL T a b x ≤ 15) (hm : rN hp0 66 17 = ((cyL T a b x : Nat) : Int)) (hr : ∀ k, k < cyL T a b x → rN hp0 78 k = ((rk T a b x k : Nat) : Int)) (hT0 : sOk V T0) (hG : ptOk V T0 (cyC T a b x (cyL T a b x)))
    (hR : ∀ (w : Int32) hp1, bHk 84 bTT hp1 → P0 hp1 → bFr [(67, 999)] hp0 hp1 → rowOk (rN hp1 67) (V, uPs T0 (cyC T a b x (cyL T a b x)), ty) → xV (d + 2) am_m230 100 [some (.ref 66), some (.int wa), some (.int wb), some (.int w)] [] hp1 R) :
    ∀ (jj k : Nat) (w : Int32) (hp : amH), w.toInt = (k : Int) → k + jj = cyL T a b x → bHk 84 bTT hp → P0 hp → bFr [(67, 999)] hp0 hp → rowOk (rN hp 67) (V, uPs T0 (cyC T a b x k), ty) → xV (d + 2) am_m230 52 [some (.ref 66), some (.int wa), some (.int wb), some (.int w)] [] hp R := by
  have hV := hT.2.1
  intro jj
  induction jj with
  | zero =>
    intro k w hp hw hj hH hP hF hC
    have m1 : rN hp 66 17 = ((cyL T a b x : Nat) : Int) := (r_fr hF rfl).trans hm
    have ek : k = cyL T a b x := by omega
    rw [ek] at hC
    refine xild 53 ⟨u230E, _, rfl⟩ rfl rfl ?_
    refine xald 54 ⟨u230E, _, rfl⟩ rfl rfl ?_
    refine xgetI 57 hH ⟨u230E, _, rfl⟩ rfl rfl (fun z54 h54 => ?_)
    refine xcmp_ge 60 ⟨u230E, _, rfl⟩ rfl (fun c57 => ?_) (fun c57 => ?_)
    · exact hR _ hp hH hP hF hC
    · omega
  | succ jj ih =>
    intro k w hp hw hj hH hP hF hC
    have m1 : rN hp 66 17 = ((cyL T a b x : Nat) : Int) := (r_fr hF rfl).trans hm
    obtain ⟨m, em⟩ : ∃ m, (k + 1) % cyL T a b x = m := ⟨_, rfl⟩
    have ml : m < cyL T a b x := by rw [← em]; exact Nat.mod_lt _ hp0c
    have rm : rN hp 78 m = ((rk T a b x (k + 1) : Nat) : Int) := by
      rw [r_fr hF rfl, hr m ml, ← em, rk_mod hT hp0c (by omega)]
    have rkk : rN hp 78 k = ((rk T a b x k : Nat) : Int) := (r_fr hF rfl).trans (hr k (by omega))
    obtain ⟨f1, f2, f3⟩ := cy_f hT hx ho hp0c k
    obtain ⟨g1, g2, g3⟩ := cy_f hT hx ho hp0c (k + 1)
    have pk : ptOk V T0 (cyC T a b x k) ∧ freM V (uPs T0 (cyC T a b x k)) (mB T a b x k) := by
      obtain ⟨R, e⟩ := rg_sp (f := mB T a b x) (k := k) (cyL T a b x - (k + 1))
      rw [show k + 1 + (cyL T a b x - (k + 1)) = cyL T a b x by omega] at e
      have h2 := hG
      unfold cyC at h2
      rw [e] at h2
      have h3 := ptOk_app h2
      exact ⟨h3.1, h3.2.1⟩
    have n1 : ¬ abS a b (!pr2 false k) = rk T a b x k := by rw [sBx]; split <;> omega
    have n2 := (st_in hT f3).2.1
    have n3 : ¬ abS a b (!pr2 false k) = rk T a b x (k + 1) := by rw [sBx]; split <;> omega
    have lo : abS a b (!pr2 false k) < V := by rw [sBx]; split <;> omega
    have fr := freM_3 (sOk_uPs hT0 pk.1) pk.2 n1 n2 n3
    have eT : uPs T0 (cyC T a b x (k + 1)) = sPut (uPs T0 (cyC T a b x k)) (abS a b (!pr2 false k)) (rk T a b x k) (rk T a b x (k + 1)) := by
      rw [cyC_s, uPs_app]
      exact uPut_3 _ (by omega) (by omega) (by omega) n1 n2 n3
    refine xild 53 ⟨u230E, _, rfl⟩ rfl rfl ?_
    refine xald 54 ⟨u230E, _, rfl⟩ rfl rfl ?_
    refine xgetI 57 hH ⟨u230E, _, rfl⟩ rfl rfl (fun z54 h54 => ?_)
    refine xcmp_ge 60 ⟨u230E, _, rfl⟩ rfl (fun c57 => ?_) (fun c57 => ?_)
    · omega
    · refine xald 61 ⟨u230E, _, rfl⟩ rfl rfl ?_
      refine xild 62 ⟨u230E, _, rfl⟩ rfl rfl ?_
      refine xcst 63 (2) ⟨u230E, _, rfl⟩ rfl (by decide) (fun z62 h62 => ?_)
      refine xrem 64 (Int32.toInt w % 2) ⟨u230E, _, rfl⟩ rfl (by omega) (by omega) (by rw [h62]) (fun z63 h63 => ?_)
      refine xif_ne 67 ⟨u230E, _, rfl⟩ rfl (fun c64 => ?_) (fun c64 => ?_)
      · refine xild 72 ⟨u230E, _, rfl⟩ rfl rfl ?_
        refine xald 73 ⟨u230E, _, rfl⟩ rfl rfl ?_
        refine xgetR 76 78 hH ⟨u230E, _, rfl⟩ rfl rfl ?_
        refine xild 77 ⟨u230E, _, rfl⟩ rfl rfl ?_
        refine xiald 78 (w).toInt.toNat hH ⟨u230E, _, rfl⟩ rfl (by decide) rfl (by omega) (by omega) (fun z77 h77 => ?_)
        refine xald 79 ⟨u230E, _, rfl⟩ rfl rfl ?_
        refine xgetR 82 78 hH ⟨u230E, _, rfl⟩ rfl rfl ?_
        refine xild 83 ⟨u230E, _, rfl⟩ rfl rfl ?_
        refine xcst 84 (1) ⟨u230E, _, rfl⟩ rfl (by decide) (fun z83 h83 => ?_)
        refine xadd 85 _ ⟨u230E, _, rfl⟩ rfl rfl (by omega) (by omega) (fun z84 h84 => ?_)
        refine xald 86 ⟨u230E, _, rfl⟩ rfl rfl ?_
        refine xgetI 89 hH ⟨u230E, _, rfl⟩ rfl rfl (fun z86 h86 => ?_)
        refine xrem 90 (_) ⟨u230E, _, rfl⟩ rfl (by omega) (by omega) (rfl) (fun z89 h89 => ?_)
        have i89 : z89.toInt = ((m : Nat) : Int) := by rw [h89, show z84.toInt = ((k + 1 : Nat) : Int) by omega, show z86.toInt = ((cyL T a b x : Nat) : Int) by omega, ← em]; rfl
        refine xiald 91 (z89).toInt.toNat hH ⟨u230E, _, rfl⟩ rfl (by decide) rfl (by omega) (by omega) (fun z90 h90 => ?_)
        rw [show z89.toInt.toNat = m by omega, rm] at h90
        rw [show w.toInt.toNat = k by omega, rkk] at h77
        refine xcall 94 [.ref 66, .int _, .int _, .int _] [] hH ⟨u230E, _, rfl⟩ rfl rfl rfl rfl rfl (k_ptR hH hP hC (x := abS a b (!pr2 false k)) (y := rk T a b x k) (z := rk T a b x (k + 1)) (by rw [sBx]; split <;> omega) h77 h90 lo f2 g2 n1 n2 n3 fr (fun hp91 hH91 P91 F91 C91 => ⟨_, rfl, ?_⟩))
        rw [← eT] at C91
        refine xinc 97 (1) ⟨u230E, _, rfl⟩ rfl rfl rfl (by decide) (by omega) (by omega) (fun z94 h94 => ?_)
        refine xgoto ⟨u230E, _, rfl⟩ ?_
        exact ih (k + 1) z94 hp91 (by omega) (by omega) hH91 P91 (hF.trans F91) C91
      · refine xild 68 ⟨u230E, _, rfl⟩ rfl rfl ?_
        refine xgoto ⟨u230E, _, rfl⟩ ?_
        refine xald 73 ⟨u230E, _, rfl⟩ rfl rfl ?_
        refine xgetR 76 78 hH ⟨u230E, _, rfl⟩ rfl rfl ?_
        refine xild 77 ⟨u230E, _, rfl⟩ rfl rfl ?_
        refine xiald 78 (w).toInt.toNat hH ⟨u230E, _, rfl⟩ rfl (by decide) rfl (by omega) (by omega) (fun z77 h77 => ?_)
        refine xald 79 ⟨u230E, _, rfl⟩ rfl rfl ?_
        refine xgetR 82 78 hH ⟨u230E, _, rfl⟩ rfl rfl ?_
        refine xild 83 ⟨u230E, _, rfl⟩ rfl rfl ?_
        refine xcst 84 (1) ⟨u230E, _, rfl⟩ rfl (by decide) (fun z83 h83 => ?_)
        refine xadd 85 _ ⟨u230E, _, rfl⟩ rfl rfl (by omega) (by omega) (fun z84 h84 => ?_)
        refine xald 86 ⟨u230E, _, rfl⟩ rfl rfl ?_
        refine xgetI 89 hH ⟨u230E, _, rfl⟩ rfl rfl (fun z86 h86 => ?_)
        refine xrem 90 (_) ⟨u230E, _, rfl⟩ rfl (by omega) (by omega) (rfl) (fun z89 h89 => ?_)
        have i89 : z89.toInt = ((m : Nat) : Int) := by rw [h89, show z84.toInt = ((k + 1 : Nat) : Int) by omega, show z86.toInt = ((cyL T a b x : Nat) : Int) by omega, ← em]; rfl
        refine xiald 91 (z89).toInt.toNat hH ⟨u230E, _, rfl⟩ rfl (by decide) rfl (by omega) (by omega) (fun z90 h90 => ?_)
        rw [show z89.toInt.toNat = m by omega, rm] at h90
        rw [show w.toInt.toNat = k by omega, rkk] at h77
        refine xcall 94 [.ref 66, .int _, .int _, .int _] [] hH ⟨u230E, _, rfl⟩ rfl rfl rfl rfl rfl (k_ptR hH hP hC (x := abS a b (!pr2 false k)) (y := rk T a b x k) (z := rk T a b x (k + 1)) (by rw [sBx]; split <;> omega) h77 h90 lo f2 g2 n1 n2 n3 fr (fun hp91 hH91 P91 F91 C91 => ⟨_, rfl, ?_⟩))
        rw [← eT] at C91
        refine xinc 97 (1) ⟨u230E, _, rfl⟩ rfl rfl rfl (by decide) (by omega) (by omega) (fun z94 h94 => ?_)
        refine xgoto ⟨u230E, _, rfl⟩ ?_
        exact ih (k + 1) z94 hp91 (by omega) (by omega) hH91 P91 (hF.trans F91) C91
theorem k_230E {d V n x a b : Nat} {h : Nat → sR} {sv : Option sR} {T : sT} {ty : Nat → Int} {hp : amH} {R : xQ} {wa wb : Int32} (hH : bHk 84 bTT hp) (hP : P0 hp) (hS : rfS hp (V, T, ty) n h sv) (ha : wa.toInt = (a : Int)) (hb : wb.toInt = (b : Int)) (aV : a < V) (bV : b < V) (hab : ¬ a = b) (hx : x < V) (ho : offP T a b x) (hp0 : 0 < cyL T a b x) (hm : rN hp 66 17 = ((cyL T a b x : Nat) : Int)) (hr : ∀ k, k < cyL T a b x → rN hp 78 k = ((rk T a b x k : Nat) : Int))
    (hR : ∀ hp1, bHk 84 bTT hp1 → P0 hp1 → bFr [(67, 999)] hp hp1 → rfS hp1 (V, swC T a b x, tyC ty (cyL T a b x)) n h sv → R (.inl none) hp1) : xK (d + 2) 230 [.ref 66, .int wa, .int wb] hp R := by
  have hT : sOk V T := hS.1.2.1
  obtain ⟨w1, w2, w3, w4⟩ := cy_ok hT aV bV hab hx ho hp0
  obtain ⟨c1, c2, c3, c4⟩ := cyL_s hT hp0
  refine xin (M := am_m230) rfl rfl rfl ?_
  refine xcst 1 (0) ⟨u230E, _, rfl⟩ rfl (by decide) (fun z0 h0 => ?_)
  refine xist 2 ⟨u230E, _, rfl⟩ rfl rfl ?_
  refine l230y (a := a) (b := b) (ty := ty) hT ha hb hab hx ho hp0 c1 hm hr (fun v2 hpb hHb Pb Fb Cb => ?_) (cyL T a b x) 0 _ hp h0 (by omega) hH hP (bFr.refl _ _) hS.1
  refine xcst 51 (0) ⟨u230E, _, rfl⟩ rfl (by decide) (fun z50 h50 => ?_)
  refine xist 52 ⟨u230E, _, rfl⟩ rfl rfl ?_
  refine l230z (a := a) (b := b) (ty := ty) hT aV bV ha hb hx ho hp0 c1 ((r_fr Fb rfl).trans hm) (fun k hk => (r_fr Fb rfl).trans (hr k hk)) w2 w3 (fun v3 hpc hHc Pc Fc Cc => ?_) (cyL T a b x) 0 _ hpb h50 (by omega) hHb Pb (bFr.refl _ _) Cb
  refine xald 101 ⟨u230E, _, rfl⟩ rfl rfl ?_
  refine xgetR 104 67 hHc ⟨u230E, _, rfl⟩ rfl rfl ?_
  refine xcst 105 (2) ⟨u230E, _, rfl⟩ rfl (by decide) (fun z104 h104 => ?_)
  refine xdup2 106 ⟨u230E, _, rfl⟩ rfl rfl rfl ?_
  refine xiald 107 (z104).toInt.toNat hHc ⟨u230E, _, rfl⟩ rfl (by decide) rfl (by omega) (by omega) (fun z106 h106 => ?_)
  refine xcst 108 (1) ⟨u230E, _, rfl⟩ rfl (by decide) (fun z107 h107 => ?_)
  refine xaddB 109 ⟨u230E, _, rfl⟩ rfl (fun z108 h108 => ?_)
  have em109 := aMin z108
  have ex109 := aMax z108
  refine xiast 110 (z104).toInt.toNat hHc ⟨u230E, _, rfl⟩ rfl (by decide) rfl (by omega) (by omega) (by omega) (by omega) (fun hp109 hH109 U109 => ?_)
  have s109 := U109.1
  refine xald 111 ⟨u230E, _, rfl⟩ rfl rfl ?_
  refine xgetR 114 67 hH109 ⟨u230E, _, rfl⟩ rfl rfl ?_
  refine xcst 115 (3) ⟨u230E, _, rfl⟩ rfl (by decide) (fun z114 h114 => ?_)
  refine xdup2 116 ⟨u230E, _, rfl⟩ rfl rfl rfl ?_
  refine xiald 117 (z114).toInt.toNat hH109 ⟨u230E, _, rfl⟩ rfl (by decide) rfl (by omega) (by omega) (fun z116 h116 => ?_)
  refine xald 118 ⟨u230E, _, rfl⟩ rfl rfl ?_
  refine xgetI 121 hH109 ⟨u230E, _, rfl⟩ rfl rfl (fun z118 h118 => ?_)
  refine xaddB 122 ⟨u230E, _, rfl⟩ rfl (fun z121 h121 => ?_)
  have em122 := aMin z121
  have ex122 := aMax z121
  refine xiast 123 (z114).toInt.toNat hH109 ⟨u230E, _, rfl⟩ rfl (by decide) rfl (by omega) (by omega) (by omega) (by omega) (fun hp122 hH122 U122 => ?_)
  have s122 := U122.1
  have q1 : rN hpc 67 1 = ty 0 := Cc.2.2.2.2 0 (by omega)
  have q2 : rN hpc 67 2 = ty 1 := Cc.2.2.2.2 1 (by omega)
  have q3 : rN hpc 67 3 = ty 2 := Cc.2.2.2.2 2 (by omega)
  have qm : rN hpc 66 17 = ((cyL T a b x : Nat) : Int) := (r_fr (Fb.trans Fc) rfl).trans hm
  have u109 := U109.1
  have u122 := U122.1
  have i1 : z104.toInt.toNat = 2 := by omega
  have i3 : z114.toInt.toNat = 3 := by omega
  rw [i1] at u109 h106
  rw [i3] at u122 h116
  have Cd : rowOk (rN hp122 67) (V, swC T a b x, tyC ty (cyL T a b x)) := by
    obtain ⟨r0, r1, r2, r3, r4⟩ := Cc
    refine ⟨by rw [rU_ne U122 (by first | decide | exact (fun z => absurd z.1 (by decide)) | omega), rU_ne U109 (by first | decide | exact (fun z => absurd z.1 (by decide)) | omega)]; exact r0, r1, fun u v hu hv => by rw [rU_ne U122 (by first | decide | exact (fun z => absurd z.1 (by decide)) | omega), rU_ne U109 (by first | decide | exact (fun z => absurd z.1 (by decide)) | omega)]; exact r2 u v hu hv, r3, fun i hi => ?_⟩
    have : i = 0 ∨ i = 1 ∨ i = 2 := by omega
    rcases this with rfl | rfl | rfl
    · show rN hp122 67 1 = _
      rw [rU_ne U122 (by first | decide | exact (fun z => absurd z.1 (by decide)) | omega), rU_ne U109 (by first | decide | exact (fun z => absurd z.1 (by decide)) | omega)]
      exact q1
    · show rN hp122 67 2 = _
      rw [rU_ne U122 (by first | decide | exact (fun z => absurd z.1 (by decide)) | omega), u109, h108, h106, q2, h107]
      rfl
    · show rN hp122 67 3 = _
      rw [u122, h121, h116, rU_ne U109 (by first | decide | exact (fun z => absurd z.1 (by decide)) | omega), q3, h118, rU_ne U109 (by first | decide | exact (fun z => absurd z.1 (by decide)) | omega), qm]
      rfl
  have Fd : bFr [(67, 999)] hp hp122 := ((Fb.trans Fc).trans (rU_fr U109 (bIn_all (by decide) _))).trans (rU_fr U122 (bIn_all (by decide) _))
  exact xretV ⟨u230E, _, rfl⟩ rfl (hR hp122 hH122 (P0_67 Fd hP (rowOk_V Cd)) Fd (rfS_67 hS Fd Cd))
/-- whether there is such a cycle -/
noncomputable def gCy (V : Nat) (T : sT) (a b q : Int) : Int := if gTwo V a b = 0 then (if 0 ≤ q ∧ q < (((cyS T a.toNat b.toNat V).length : Nat) : Int) then 0 else 3) else gTwo V a b
theorem gCy_0 {V : Nat} {T : sT} {a b q : Int} : gCy V T a b q = 0 ↔ gTwo V a b = 0 ∧ 0 ≤ q ∧ q < (((cyS T a.toNat b.toNat V).length : Nat) : Int) := by
  unfold gCy
  by_cases g : gTwo V a b = 0
  · rw [if_pos g]
    by_cases k : 0 ≤ q ∧ q < (((cyS T a.toNat b.toNat V).length : Nat) : Int)
    · rw [if_pos k]; exact ⟨fun _ => ⟨g, k⟩, fun _ => rfl⟩
    · rw [if_neg k]; exact ⟨fun z => by omega, fun z => absurd z.2 k⟩
  · rw [if_neg g]; exact ⟨fun z => absurd z g, fun z => absurd z.1 g⟩
noncomputable abbrev wNoC : List (Nat × Nat) := [(66, 7), (66, 17), (78, 999)] ++ bLT
theorem k_259E {d V : Nat} {T : sT} {hp : amH} {R : xQ} {a b q : Int32} (hH : bHk 84 bTT hp) (hP : P0 hp) (hB : rdOk hp V T)
    (hR : ∀ (z : Int32) hp1, bHk 84 bTT hp1 → P0 hp1 → bFr wNoC hp hp1 → rN hp1 66 7 = gCy V T a.toInt b.toInt q.toInt → ((gCy V T a.toInt b.toInt q.toInt = 0 ∧ z.toInt = 0 ∧ rN hp1 66 17 = ((cyL T a.toInt.toNat b.toInt.toNat (cyX V T a.toInt b.toInt q.toInt) : Nat) : Int) ∧ ∀ k, k < cyL T a.toInt.toNat b.toInt.toNat (cyX V T a.toInt b.toInt q.toInt) → rN hp1 78 k = ((rk T a.toInt.toNat b.toInt.toNat (cyX V T a.toInt b.toInt q.toInt) k : Nat) : Int)) ∨ (¬ gCy V T a.toInt b.toInt q.toInt = 0 ∧ z.toInt = 1)) → R (.inl (some (.int z))) hp1) : xK (d + 4) 259 [.ref 66, .int a, .int b, .int q] hp R := by
  have hT : sOk V T := hB.2.1
  have hV := hT.2.1
  refine xin (M := am_m259) rfl rfl rfl ?_
  refine xald 1 ⟨u259E, _, rfl⟩ rfl rfl ?_
  refine xild 2 ⟨u259E, _, rfl⟩ rfl rfl ?_
  refine xild 3 ⟨u259E, _, rfl⟩ rfl rfl ?_
  refine xcall 6 [.ref 66, .int _, .int _] [] hH ⟨u259E, _, rfl⟩ rfl rfl rfl rfl rfl (k_gp2 hH hB.1 (by omega) (fun z3 hp3 hH3 F3 t3 o3 => ⟨_, rfl, ?_⟩))
  have P3 : P0 hp3 := P0_W (W := [(66, 7)]) (by decide) F3 hP
  refine xif_eq 9 ⟨u259E, _, rfl⟩ rfl (fun c6 => ?_) (fun c6 => ?_)
  · have g2 : gTwo V a.toInt b.toInt = 0 := by omega
    have k2 := gTwo_0.mp g2
    refine xald 12 ⟨u259E, _, rfl⟩ rfl rfl ?_
    refine xcall 15 [.ref 66] [] hH3 ⟨u259E, _, rfl⟩ rfl rfl rfl rfl rfl (k_lt hH3 P3 (fun hp12 hH12 P12 F12 => ⟨_, rfl, ?_⟩))
    have B12 : rdOk hp12 V T := rdOk_fr hB (fun i => (r_fr F12 rfl).trans (r_fr F3 rfl))
    refine xald 16 ⟨u259E, _, rfl⟩ rfl rfl ?_
    refine xald 17 ⟨u259E, _, rfl⟩ rfl rfl ?_
    refine xild 18 ⟨u259E, _, rfl⟩ rfl rfl ?_
    refine xild 19 ⟨u259E, _, rfl⟩ rfl rfl ?_
    refine xild 20 ⟨u259E, _, rfl⟩ rfl rfl ?_
    refine xcall 23 [.ref 66, .int _, .int _, .int _] [.ref 66] hH12 ⟨u259E, _, rfl⟩ rfl rfl rfl rfl rfl (k_228E (a := a.toInt.toNat) (b := b.toInt.toNat) hH12 B12 (by omega) (by omega) (by omega) (by omega) (fun z20 hp20 hH20 F20 h20 r20 => ⟨_, rfl, ?_⟩))
    refine xif_ne 26 ⟨u259E, _, rfl⟩ rfl (fun c23 => ?_) (fun c23 => ?_)
    · refine xcst 31 (0) ⟨u259E, _, rfl⟩ rfl (by decide) (fun z30 h30 => ?_)
      refine xcst 32 (3) ⟨u259E, _, rfl⟩ rfl (by decide) (fun z31 h31 => ?_)
      refine xcall 35 [.ref 66, .int _, .int _] [] hH20 ⟨u259E, _, rfl⟩ rfl rfl rfl rfl rfl (k_failsE hH20 (by omega) (fun hp32 hH32 V32 => ⟨_, rfl, ?_⟩))
      have F20c : bFr wNoC hp hp20 := (bFr_sub F3 (by decide)).trans ((bFr_sub F12 (by decide)).trans (bFr_sub F20 (by decide)))
      have P20 : P0 hp20 := P0_W (W := wWkE) (by decide) F20 P12
      have t20 : rN hp20 66 7 = gTwo V a.toInt b.toInt := (r_fr F20 rfl).trans ((r_fr F12 rfl).trans t3)
      by_cases qn : 0 ≤ q.toInt ∧ q.toInt < (((cyS T a.toInt.toNat b.toInt.toNat V).length : Nat) : Int)
      · have gc : gCy V T a.toInt b.toInt q.toInt = 0 := gCy_0.mpr ⟨g2, qn⟩
        rw [if_pos qn] at h20
        rcases V32 with ⟨y, e⟩ | ⟨y, U⟩
        · rw [e]
          exact xretB ⟨u259E, _, rfl⟩ rfl (by omega) (hR _ hp20 (e ▸ hH32) P20 F20c (by rw [gc, t20, g2]) (Or.inl ⟨gc, y, r20 qn.1 qn.2⟩))
        · exfalso; omega
      · have gc : gCy V T a.toInt b.toInt q.toInt = 3 := by unfold gCy; rw [if_pos g2, if_neg qn]
        rw [if_neg qn] at h20
        rcases V32 with ⟨y, e⟩ | ⟨y, U⟩
        · exfalso; omega
        · have FU : bFr [(66, 7)] hp20 hp32 := rU_fr U (by decide)
          exact xretB ⟨u259E, _, rfl⟩ rfl (by omega) (hR _ hp32 hH32 (P0_W (W := [(66, 7)]) (by decide) FU P20) (F20c.trans (bFr_sub FU (by decide))) (by rw [gc, U.1]; exact h31) (Or.inr ⟨by omega, y⟩))
    · refine xcst 27 (1) ⟨u259E, _, rfl⟩ rfl (by decide) (fun z26 h26 => ?_)
      refine xgoto ⟨u259E, _, rfl⟩ ?_
      refine xcst 32 (3) ⟨u259E, _, rfl⟩ rfl (by decide) (fun z31 h31 => ?_)
      refine xcall 35 [.ref 66, .int _, .int _] [] hH20 ⟨u259E, _, rfl⟩ rfl rfl rfl rfl rfl (k_failsE hH20 (by omega) (fun hp32 hH32 V32 => ⟨_, rfl, ?_⟩))
      have F20c : bFr wNoC hp hp20 := (bFr_sub F3 (by decide)).trans ((bFr_sub F12 (by decide)).trans (bFr_sub F20 (by decide)))
      have P20 : P0 hp20 := P0_W (W := wWkE) (by decide) F20 P12
      have t20 : rN hp20 66 7 = gTwo V a.toInt b.toInt := (r_fr F20 rfl).trans ((r_fr F12 rfl).trans t3)
      by_cases qn : 0 ≤ q.toInt ∧ q.toInt < (((cyS T a.toInt.toNat b.toInt.toNat V).length : Nat) : Int)
      · have gc : gCy V T a.toInt b.toInt q.toInt = 0 := gCy_0.mpr ⟨g2, qn⟩
        rw [if_pos qn] at h20
        rcases V32 with ⟨y, e⟩ | ⟨y, U⟩
        · rw [e]
          exact xretB ⟨u259E, _, rfl⟩ rfl (by omega) (hR _ hp20 (e ▸ hH32) P20 F20c (by rw [gc, t20, g2]) (Or.inl ⟨gc, y, r20 qn.1 qn.2⟩))
        · exfalso; omega
      · have gc : gCy V T a.toInt b.toInt q.toInt = 3 := by unfold gCy; rw [if_pos g2, if_neg qn]
        rw [if_neg qn] at h20
        rcases V32 with ⟨y, e⟩ | ⟨y, U⟩
        · exfalso; omega
        · have FU : bFr [(66, 7)] hp20 hp32 := rU_fr U (by decide)
          exact xretB ⟨u259E, _, rfl⟩ rfl (by omega) (hR _ hp32 hH32 (P0_W (W := [(66, 7)]) (by decide) FU P20) (F20c.trans (bFr_sub FU (by decide))) (by rw [gc, U.1]; exact h31) (Or.inr ⟨by omega, y⟩))
  · have g2 : ¬ gTwo V a.toInt b.toInt = 0 := by omega
    have gc : gCy V T a.toInt b.toInt q.toInt = gTwo V a.toInt b.toInt := by unfold gCy; rw [if_neg g2]
    refine xcst 10 (1) ⟨u259E, _, rfl⟩ rfl (by decide) (fun z9 h9 => ?_)
    exact xretB ⟨u259E, _, rfl⟩ rfl (by omega) (hR _ hp3 hH3 P3 (bFr_sub F3 (by decide)) (by rw [gc]; exact t3) (Or.inr ⟨by omega, h9⟩))
theorem k_300E {d V n : Nat} {h : Nat → sR} {sv : Option sR} {T : sT} {ty : Nat → Int} {hp : amH} {R : xQ} {a b q : Int32} (hH : bHk 84 bTT hp) (hP : P0 hp) (hS : rfS hp (V, T, ty) n h sv)
    (hR : ∀ (z : Int32) hp1, bHk 84 bTT hp1 → P0 hp1 → bFr wM hp hp1 → rN hp1 66 7 = gCy V T a.toInt b.toInt q.toInt → ((¬ gCy V T a.toInt b.toInt q.toInt = 0 ∧ rfS hp1 (V, T, ty) n h sv) ∨ (gCy V T a.toInt b.toInt q.toInt = 0 ∧ rfS hp1 (V, swC T a.toInt.toNat b.toInt.toNat (cyX V T a.toInt b.toInt q.toInt), tyC ty (cyL T a.toInt.toNat b.toInt.toNat (cyX V T a.toInt b.toInt q.toInt))) (pM n + 1) (pH n h (V, T, ty)) sv ∧ z.toInt = ((cyL T a.toInt.toNat b.toInt.toNat (cyX V T a.toInt b.toInt q.toInt) : Nat) : Int))) → R (.inl (some (.int z))) hp1) : xK (d + 5) 300 [.ref 66, .int a, .int b, .int q] hp R := by
  have hT : sOk V T := hS.1.2.1
  refine xin (M := am_m300) rfl rfl rfl ?_
  refine xald 1 ⟨u300E, _, rfl⟩ rfl rfl ?_
  refine xild 2 ⟨u300E, _, rfl⟩ rfl rfl ?_
  refine xild 3 ⟨u300E, _, rfl⟩ rfl rfl ?_
  refine xild 4 ⟨u300E, _, rfl⟩ rfl rfl ?_
  refine xcall 7 [.ref 66, .int _, .int _, .int _] [] hH ⟨u300E, _, rfl⟩ rfl rfl rfl rfl rfl (k_259E hH hP (rowOk_rd hS.1) (fun z4 hp4 hH4 P4 F4 t4 o4 => ⟨_, rfl, ?_⟩))
  have S4 := rfS_W hS F4 (fun _ => rfl) rfl rfl (fun _ => rfl) (fun _ => rfl)
  refine xif_eq 10 ⟨u300E, _, rfl⟩ rfl (fun c7 => ?_) (fun c7 => ?_)
  · obtain ⟨gc, -, m4, r4⟩ : gCy V T a.toInt b.toInt q.toInt = 0 ∧ z4.toInt = 0 ∧ rN hp4 66 17 = ((cyL T a.toInt.toNat b.toInt.toNat (cyX V T a.toInt b.toInt q.toInt) : Nat) : Int) ∧ ∀ k, k < cyL T a.toInt.toNat b.toInt.toNat (cyX V T a.toInt b.toInt q.toInt) → rN hp4 78 k = ((rk T a.toInt.toNat b.toInt.toNat (cyX V T a.toInt b.toInt q.toInt) k : Nat) : Int) := by
      rcases o4 with o | o
      · exact o
      · exfalso; omega
    obtain ⟨g2, g3, g4⟩ := gCy_0.mp gc
    have k2 := gTwo_0.mp g2
    have hq : q.toInt.toNat < (cyS T a.toInt.toNat b.toInt.toNat V).length := by omega
    obtain ⟨b1, b2⟩ := cyS_get hq
    obtain ⟨x, ex⟩ : ∃ x, cyX V T a.toInt b.toInt q.toInt = x := ⟨_, rfl⟩
    have b1 : cyB T a.toInt.toNat b.toInt.toNat x = true := by rw [← ex]; exact b1
    have b2 : x < V := by rw [← ex]; exact b2
    rw [ex] at m4 r4
    obtain ⟨o1, o2, o3, hp0, -⟩ := (cyB_s hT).mp b1
    refine xald 13 ⟨u300E, _, rfl⟩ rfl rfl ?_
    refine xcall 16 [.ref 66] [] hH4 ⟨u300E, _, rfl⟩ rfl rfl rfl rfl rfl (k_rmS hH4 P4 S4 (fun hp13 hH13 P13 F13 S13 => ⟨_, rfl, ?_⟩))
    refine xald 17 ⟨u300E, _, rfl⟩ rfl rfl ?_
    refine xild 18 ⟨u300E, _, rfl⟩ rfl rfl ?_
    refine xild 19 ⟨u300E, _, rfl⟩ rfl rfl ?_
    refine xcall 22 [.ref 66, .int _, .int _] [] hH13 ⟨u300E, _, rfl⟩ rfl rfl rfl rfl rfl (k_230E (x := x) (a := a.toInt.toNat) (b := b.toInt.toNat) hH13 P13 S13 (by omega) (by omega) (by omega) (by omega) (by omega) b2 ⟨o1, o2, o3⟩ hp0 ((r_fr F13 rfl).trans m4) (fun k hk => (r_fr F13 rfl).trans (r4 k hk)) (fun hp19 hH19 P19 F19 S19 => ⟨_, rfl, ?_⟩))
    have F19c : bFr wM hp hp19 := (bFr_sub F4 (by decide)).trans ((bFr_sub F13 (by decide)).trans (bFr_sub F19 (by decide)))
    refine xald 23 ⟨u300E, _, rfl⟩ rfl rfl ?_
    refine xgetI 26 hH19 ⟨u300E, _, rfl⟩ rfl rfl (fun z23 h23 => ?_)
    exact xret ⟨u300E, _, rfl⟩ rfl (hR _ hp19 hH19 P19 F19c (by rw [r_fr F19 rfl, r_fr F13 rfl]; exact t4) (Or.inr ⟨gc, by rw [ex]; exact S19, by rw [ex, h23, r_fr F19 rfl, r_fr F13 rfl]; exact m4⟩))
  · have gc : ¬ gCy V T a.toInt b.toInt q.toInt = 0 := by
      rcases o4 with o | o
      · exfalso; omega
      · exact o.1
    refine xcst 11 (0) ⟨u300E, _, rfl⟩ rfl (by decide) (fun z10 h10 => ?_)
    exact xret ⟨u300E, _, rfl⟩ rfl (hR _ hp4 hH4 P4 (bFr_sub F4 (by decide)) t4 (Or.inl ⟨gc, S4⟩))
theorem k_301E {d V n : Nat} {h : Nat → sR} {sv : Option sR} {T : sT} {ty : Nat → Int} {hp : amH} {R : xQ} {a b q : Int32} (hH : bHk 84 bTT hp) (hP : P0 hp) (hS : rfS hp (V, T, ty) n h sv)
    (hR : ∀ (z : Int32) hp1, bHk 84 bTT hp1 → P0 hp1 → bFr wM hp hp1 → rN hp1 66 7 = gCy V T a.toInt b.toInt q.toInt → rfS hp1 (V, T, ty) n h sv → (¬ gCy V T a.toInt b.toInt q.toInt = 0 ∨ z.toInt = ((nQ (swC T a.toInt.toNat b.toInt.toNat (cyX V T a.toInt b.toInt q.toInt)) : Nat) : Int)) → R (.inl (some (.int z))) hp1) : xK (d + 6) 301 [.ref 66, .int a, .int b, .int q] hp R := by
  have hT : sOk V T := hS.1.2.1
  refine xin (M := am_m301) rfl rfl rfl ?_
  refine xald 1 ⟨u301E, _, rfl⟩ rfl rfl ?_
  refine xild 2 ⟨u301E, _, rfl⟩ rfl rfl ?_
  refine xild 3 ⟨u301E, _, rfl⟩ rfl rfl ?_
  refine xild 4 ⟨u301E, _, rfl⟩ rfl rfl ?_
  refine xcall 7 [.ref 66, .int _, .int _, .int _] [] hH ⟨u301E, _, rfl⟩ rfl rfl rfl rfl rfl (k_259E hH hP (rowOk_rd hS.1) (fun z4 hp4 hH4 P4 F4 t4 o4 => ⟨_, rfl, ?_⟩))
  have S4 := rfS_W hS F4 (fun _ => rfl) rfl rfl (fun _ => rfl) (fun _ => rfl)
  refine xif_eq 10 ⟨u301E, _, rfl⟩ rfl (fun c7 => ?_) (fun c7 => ?_)
  · obtain ⟨gc, -, m4, r4⟩ : gCy V T a.toInt b.toInt q.toInt = 0 ∧ z4.toInt = 0 ∧ rN hp4 66 17 = ((cyL T a.toInt.toNat b.toInt.toNat (cyX V T a.toInt b.toInt q.toInt) : Nat) : Int) ∧ ∀ k, k < cyL T a.toInt.toNat b.toInt.toNat (cyX V T a.toInt b.toInt q.toInt) → rN hp4 78 k = ((rk T a.toInt.toNat b.toInt.toNat (cyX V T a.toInt b.toInt q.toInt) k : Nat) : Int) := by
      rcases o4 with o | o
      · exact o
      · exfalso; omega
    obtain ⟨g2, g3, g4⟩ := gCy_0.mp gc
    have k2 := gTwo_0.mp g2
    have hq : q.toInt.toNat < (cyS T a.toInt.toNat b.toInt.toNat V).length := by omega
    obtain ⟨b1, b2⟩ := cyS_get hq
    obtain ⟨x, ex⟩ : ∃ x, cyX V T a.toInt b.toInt q.toInt = x := ⟨_, rfl⟩
    have b1 : cyB T a.toInt.toNat b.toInt.toNat x = true := by rw [← ex]; exact b1
    have b2 : x < V := by rw [← ex]; exact b2
    rw [ex] at m4 r4
    obtain ⟨o1, o2, o3, hp0, -⟩ := (cyB_s hT).mp b1
    refine xald 13 ⟨u301E, _, rfl⟩ rfl rfl ?_
    refine xcall 16 [.ref 66] [] hH4 ⟨u301E, _, rfl⟩ rfl rfl rfl rfl rfl (k_begE hH4 P4 S4 (fun hp13 hH13 P13 F13 S13 A13 => ⟨_, rfl, ?_⟩))
    refine xald 17 ⟨u301E, _, rfl⟩ rfl rfl ?_
    refine xild 18 ⟨u301E, _, rfl⟩ rfl rfl ?_
    refine xild 19 ⟨u301E, _, rfl⟩ rfl rfl ?_
    refine xcall 22 [.ref 66, .int _, .int _] [] hH13 ⟨u301E, _, rfl⟩ rfl rfl rfl rfl rfl (k_230E (x := x) (a := a.toInt.toNat) (b := b.toInt.toNat) hH13 P13 S13 (by omega) (by omega) (by omega) (by omega) (by omega) b2 ⟨o1, o2, o3⟩ hp0 ((r_fr F13 rfl).trans m4) (fun k hk => (r_fr F13 rfl).trans (r4 k hk)) (fun hp19 hH19 P19 F19 S19 => ⟨_, rfl, ?_⟩))
    refine xald 23 ⟨u301E, _, rfl⟩ rfl rfl ?_
    refine xcall 26 [.ref 66] [] hH19 ⟨u301E, _, rfl⟩ rfl rfl rfl rfl rfl (k_261E hH19 (rowOk_rd S19.1) (fun z23 hp23 hH23 F23 L23 Q23 h23 => ⟨_, rfl, ?_⟩))
    have P23 : P0 hp23 := P0_W (W := wLQE) (by decide) F23 P19
    have S23 := rfS_W S19 F23 (fun _ => rfl) rfl rfl (fun _ => rfl) (fun _ => rfl)
    have A23 : rowOk (rN hp23 69) (V, T, ty) := by rw [show rN hp23 69 = rN hp13 69 from funext (fun i => (r_fr F23 rfl).trans (r_fr F19 rfl))]; exact A13
    refine xist2 28 ⟨u301E, _, rfl⟩ rfl rfl ?_
    refine xald 29 ⟨u301E, _, rfl⟩ rfl rfl ?_
    refine xcall 32 [.ref 66] [] hH23 ⟨u301E, _, rfl⟩ rfl rfl rfl rfl rfl (k_endE hH23 P23 S23 A23 (fun hp29 hH29 P29 F29 S29 => ⟨_, rfl, ?_⟩))
    have F29c : bFr wM hp hp29 := (bFr_sub F4 (by decide)).trans ((bFr_sub F13 (by decide)).trans ((bFr_sub F19 (by decide)).trans ((bFr_sub F23 (by decide)).trans (bFr_sub F29 (by decide)))))
    refine xild2 34 ⟨u301E, _, rfl⟩ rfl rfl ?_
    exact xret ⟨u301E, _, rfl⟩ rfl (hR _ hp29 hH29 P29 F29c (by rw [r_fr F29 rfl, r_fr F23 rfl, r_fr F19 rfl, r_fr F13 rfl]; exact t4) S29 (Or.inr (by rw [ex]; exact h23)))
  · have gc : ¬ gCy V T a.toInt b.toInt q.toInt = 0 := by
      rcases o4 with o | o
      · exfalso; omega
      · exact o.1
    refine xcst 11 (0) ⟨u301E, _, rfl⟩ rfl (by decide) (fun z10 h10 => ?_)
    exact xret ⟨u301E, _, rfl⟩ rfl (hR _ hp4 hH4 P4 (bFr_sub F4 (by decide)) t4 S4 (Or.inl gc))
end
/-! ##### 19.m.098.41a ##### -/
section
/-! ===== the beginning on both sides ===== -/
theorem trL_E : ∀ n, trL sE n = []
  | 0 => rfl
  | n + 1 => by
    have h : ¬ trB sE n = true := fun z => by
      have z := of_decide_eq_true z
      have z := z.2
      unfold sE at z
      omega
    show (if trB sE n = true then trL sE n ++ [n] else trL sE n) = []
    rw [if_neg h]
    exact trL_E n
theorem qdB_E (n : Nat) : ¬ qdB sE n = true := fun z => by
  have z := of_decide_eq_true z
  have z := z.2.2.1
  rw [trL_E] at z
  exact absurd z (Nat.not_lt_zero _)
theorem fL_E : ∀ n, fL (qdB sE) n = []
  | 0 => rfl
  | n + 1 => by rw [fL_skip (qdB_E n)]; exact fL_E n
/-- the class at the beginning -/
theorem beg_cl {hp : amH} {h : Nat → sR} (b0 : rN hp 3 0 = 3) (b1 : rN hp 3 1 = 0) (bt : ∀ j, j < 225 → rN hp 4 j = -1) (bo : ∀ p, p < 15 → rN hp 6 p = ((opN 3 sE p : Nat) : Int)) (ty : ∀ i, i < 3 → rN hp 13 i = 0) (q0 : rN hp 49 0 = 0) (h0 : rN hp 14 0 = 0) (h3 : rN hp 14 3 = 0) (hs : ∀ s, sn s → snF hp s) (ha : ∃ f, hyA hp f) : clS hp (3, sE, fun _ => 0) 0 h none := by
  refine ⟨⟨b0, sOk_E (by omega) (by omega), fun u v hu hv => bt _ (by omega), fun _ _ _ => rfl, bo⟩, ⟨?_, fun t ht => ?_, fun t u v ht => ?_⟩, ⟨?_, fun q hq => ?_⟩, ty, h0, by omega, hs, ?_, h3⟩
  · show rN hp 3 1 = (((trL sE 225).length : Nat) : Int)
    rw [trL_E]; exact b1
  · have ht : t < (trL sE 225).length := ht
    rw [trL_E] at ht
    exact absurd ht (Nat.not_lt_zero t)
  · have ht : t < (trL sE 225).length := ht
    rw [trL_E] at ht
    exact absurd ht (Nat.not_lt_zero t)
  · show rN hp 49 0 = (((fL (qdB sE) 42875).length : Nat) : Int)
    rw [fL_E]; exact q0
  · have hq : q < (fL (qdB sE) 42875).length := hq
    rw [fL_E] at hq
    exact absurd hq (Nat.not_lt_zero q)
  · obtain ⟨f, hf⟩ := ha
    exact ⟨f, hf, fun k hk => absurd hk (Nat.not_lt_zero k)⟩
/-- the reference at the beginning -/
theorem beg_rf {hp : amH} {h : Nat → sR} (b0 : rN hp 67 0 = 3) (bt : ∀ j, j < 225 → rN hp 67 (4 + j) = -1) (ty : ∀ i, i < 3 → rN hp 67 (i + 1) = 0) (h5 : rN hp 66 5 = 0) (h6 : rN hp 66 6 = 0) : rfS hp (3, sE, fun _ => 0) 0 h none := by
  refine ⟨⟨b0, sOk_E (by omega) (by omega), fun u v hu hv => ?_, fun _ _ _ => rfl, ty⟩, h5, by omega, fun k hk => absurd hk (Nat.not_lt_zero k), h6⟩
  rw [show 4 + 15 * u + v = 4 + (15 * u + v) by omega]
  exact bt _ (by omega)
theorem opN_E : ∀ p : Fin 15, opN 3 sE p.1 = (if p.1 = 0 then 6 else if p.1 = 1 then 5 else if p.1 = 2 then 3 else 0) := by decide +kernel
/-- a reference in the cells -/
noncomputable def hRf (h : aH) (c i r : Nat) : Bool := match cGet h.2 c with
  | some d => (match cGet d.2.2 i with
    | some (.inl (.ref k)) => Nat.beq k r
    | _ => false)
  | none => false
theorem hRf_s {h : aH} {hp : amH} {c i r : Nat} (hr : aRh h hp) (hc : c < h.1) (e : hRf h c i r = true) : bFld hp c i = some (.ref r) := by
  unfold hRf at e
  split at e
  · next d ed =>
    split at e
    · next k ep =>
      have e := Nat.eq_of_beq_eq_true e
      obtain ⟨c9, d9, g1, g2, g3⟩ := hr.2 c (by rw [← hr.1]; exact hc)
      rw [g1] at ed
      cases ed
      obtain ⟨w, w1, w2⟩ := aRc_get g3 ep
      have w2 : w = .ref k := by first | exact w2 | exact w2.symm
      unfold bFld
      rw [g2]
      dsimp only
      rw [w1, w2, e]
    · cases e
  · cases e
end
/-! ##### 19.m.099.42a ##### -/
section
/-! ===== what the law keeps: one state on both sides, too ===== -/
/-- one state on both sides -/
noncomputable def stS (hp : amH) : Prop := ∃ (q : sR) (n : Nat) (h : Nat → sR) (sv : Option sR), clS hp q n h sv ∧ rfS hp q n h sv
/-- may the state be kept -/
noncomputable def stW (W : List (Nat × Nat)) : Bool := W.all (fun p => !(Nat.ble 3 p.1 && Nat.ble p.1 7) && (!(Nat.ble 13 p.1 && Nat.ble p.1 51) && (!(Nat.beq p.1 67) && (!(Nat.ble 70 p.1 && Nat.ble p.1 71) && !(Nat.beq p.1 66 && (Nat.beq p.2 5 || (Nat.beq p.2 6 || Nat.beq p.2 999)))))))
theorem stW_s {W : List (Nat × Nat)} (h : stW W = true) : (∀ c k, (3 ≤ c ∧ c < 8) ∨ (13 ≤ c ∧ c ≤ 51) → bIn W c k = false) ∧ (∀ k, bIn W 67 k = false) ∧ bIn W 66 5 = false ∧ bIn W 66 6 = false ∧ (∀ k, bIn W 70 k = false) ∧ ∀ k, bIn W 71 k = false := by
  have g : ∀ p ∈ W, ¬ (3 ≤ p.1 ∧ p.1 ≤ 7) ∧ ¬ (13 ≤ p.1 ∧ p.1 ≤ 51) ∧ ¬ p.1 = 67 ∧ ¬ (70 ≤ p.1 ∧ p.1 ≤ 71) ∧ ¬ (p.1 = 66 ∧ (p.2 = 5 ∨ p.2 = 6 ∨ p.2 = 999)) := by
    intro p hp
    have := List.all_eq_true.mp h p hp
    simp only [Bool.and_eq_true, Bool.not_eq_true', Bool.and_eq_false_imp, Bool.or_eq_false_iff] at this
    obtain ⟨a, b, c, d, e⟩ := this
    refine ⟨fun z => ?_, fun z => ?_, fun z => ?_, fun z => ?_, fun z => ?_⟩
    · have := a (Nat.ble_eq_true_of_le z.1)
      rw [Nat.ble_eq_true_of_le z.2] at this; cases this
    · have := b (Nat.ble_eq_true_of_le z.1)
      rw [Nat.ble_eq_true_of_le z.2] at this; cases this
    · rw [z] at c; cases c
    · have := d (Nat.ble_eq_true_of_le z.1)
      rw [Nat.ble_eq_true_of_le z.2] at this; cases this
    · have := e (by rw [z.1]; rfl)
      rcases z.2 with y | y | y
      · rw [y] at this; exact absurd this.1 (by decide)
      · rw [y] at this; exact absurd this.2.1 (by decide)
      · rw [y] at this; exact absurd this.2.2 (by decide)
  refine ⟨fun c k hc => bIn_out (fun p hp z => ?_), fun k => bIn_out (fun p hp z => (g p hp).2.2.1 z.1), bIn_out (fun p hp z => (g p hp).2.2.2.2 ⟨z.1, by omega⟩), bIn_out (fun p hp z => (g p hp).2.2.2.2 ⟨z.1, by omega⟩), fun k => bIn_out (fun p hp z => (g p hp).2.2.2.1 (by omega)), fun k => bIn_out (fun p hp z => (g p hp).2.2.2.1 (by omega))⟩
  rcases hc with hc | hc
  · exact (g p hp).1 (by omega)
  · exact (g p hp).2.1 (by omega)
theorem stS_fr {W : List (Nat × Nat)} {hp hp1 : amH} (hS : stS hp) (F : bFr W hp hp1) (w : stW W = true) : stS hp1 := by
  obtain ⟨g1, g2, g3, g4, g5, g6⟩ := stW_s w
  obtain ⟨q, n, h, sv, c, r⟩ := hS
  exact ⟨q, n, h, sv, clS_8 c (fun c k hc => F c k (g1 c k hc)), rfS_W r F g2 g3 g4 g5 g6⟩
/-- what holds before and after every step of the law -/
noncomputable def lawJ (hp : amH) : Prop := lawI hp ∧ stS hp
noncomputable def lawX (W : List (Nat × Nat)) : Bool := lawW W && stW W
theorem lawJ_fr {W : List (Nat × Nat)} {hp hp1 : amH} (h : lawJ hp) (hH1 : bHk 84 bTT hp1) (hP1 : P0 hp1) (hF : bFr W hp hp1) (w : lawX W = true) : lawJ hp1 := by
  have w := (Bool.and_eq_true _ _).mp w
  exact ⟨lawI_fr h.1 hH1 hP1 hF w.1 w.1, stS_fr h.2 hF w.2⟩
theorem lawJ_83 {hp hp1 : amH} (h : lawJ hp) (hH1 : bHk 84 bTT hp1) (hF : bFr [(83, 999)] hp hp1) : lawJ hp1 := lawJ_fr h hH1 (P0_W (W := [(83, 999)]) (by decide) hF h.1.2.1) hF rfl
/-- a query with a spec keeps it -/
theorem qanyJ {d k : Nat} {s : bSp} {av : List Value} {hp : amH} {R : cQ} (hs : bSem amGG P0 84 bTT k s) (hd : Nat.ble s.2.2.1 d = true) (hI : lawJ hp) (ha : bArgs 84 s.1 av) (hf : s.2.1 = []) (w1 : lawX s.2.2.2.1 = true)
    (hR1 : ∀ v hp1, lawJ hp1 → bFr s.2.2.2.1 hp hp1 → (∃ c ∈ s.2.2.2.2.2, bRo 84 c.1 v) → R (.inl v) hp1 0 0) (hR2 : ∀ E hp1, lawJ hp1 → bFr s.2.2.2.1 hp hp1 → E ∈ s.2.2.2.2.1 → R (.inr E) hp1 1 6) : cK d k av hp R := by
  refine cK_mono (cK_of (xsem hs (Nat.le_of_ble_eq_true hd) hI.1.1 hI.1.2.1 ha (by rw [hf]; exact noF hp) (R := fun y hp1 => lawJ hp1 ∧ bFr s.2.2.2.1 hp hp1 ∧ bOut 84 s y hp1) (fun y hp1 g1 g2 g3 g4 => ⟨lawJ_fr hI g1 g2 g3 w1, g3, g4⟩))) (fun y hp1 mc ms h => ?_)
  obtain ⟨rfl, rfl, h1, h3, h2⟩ := h
  match y, h2 with
  | .inl v, h2 =>
    obtain ⟨c, g1, g2, -⟩ := h2
    exact hR1 v hp1 h1 h3 ⟨c, g1, g2⟩
  | .inr E, h2 => exact hR2 E hp1 h1 h3 h2
theorem qIJ {d k : Nat} {s : bSp} {av : List Value} {hp : amH} {R : cQ} (hs : bSem amGG P0 84 bTT k s) (hd : Nat.ble s.2.2.1 d = true) (hI : lawJ hp) (ha : bArgs 84 s.1 av) (hf : s.2.1 = []) (w1 : lawX s.2.2.2.1 = true) (hy : yI s = true)
    (hR1 : ∀ (z : Int32) hp1, lawJ hp1 → R (.inl (some (.int z))) hp1 0 0) (hR2 : ∀ E hp1, lawJ hp1 → E ∈ s.2.2.2.2.1 → R (.inr E) hp1 1 6) : cK d k av hp R := by
  refine qanyJ hs hd hI ha hf w1 (fun v hp1 h1 _ hv => ?_) (fun E hp1 g1 _ g3 => hR2 E hp1 g1 g3)
  obtain ⟨c, g1, g2⟩ := hv
  have hc := List.all_eq_true.mp hy c g1
  obtain ⟨c1, c2⟩ := c
  match c1, v, hc, g2 with
  | some (.inl q), some w, _, g2 =>
    obtain ⟨x, rfl, -, -⟩ := g2
    exact hR1 x hp1 h1
theorem qTJ {d k t : Nat} {s : bSp} {av : List Value} {hp : amH} {R : cQ} (hs : bSem amGG P0 84 bTT k s) (hd : Nat.ble s.2.2.1 d = true) (hI : lawJ hp) (ha : bArgs 84 s.1 av) (hf : s.2.1 = []) (w1 : lawX s.2.2.2.1 = true) (hy : yT t s = true)
    (hR1 : ∀ w hp1, lawJ hp1 → bT t w → R (.inl (some w)) hp1 0 0) (hR2 : ∀ E hp1, lawJ hp1 → E ∈ s.2.2.2.2.1 → R (.inr E) hp1 1 6) : cK d k av hp R := by
  refine qanyJ hs hd hI ha hf w1 (fun v hp1 h1 _ hv => ?_) (fun E hp1 g1 _ g3 => hR2 E hp1 g1 g3)
  obtain ⟨c, g1, g2⟩ := hv
  have hc := List.all_eq_true.mp hy c g1
  obtain ⟨c1, c2⟩ := c
  match c1, v, hc, g2 with
  | some (.inr (.inl u)), some w, hc, g2 =>
    have hc : Nat.beq u t = true := hc
    have hc := Nat.eq_of_beq_eq_true hc
    subst hc
    exact hR1 w hp1 h1 g2
end
/-! ##### 19.m.100.42b ##### -/
section
/-! ===== both sides' steps joined ===== -/
/-- the class's cells, but the text and its number -/
noncomputable def wClJ : List (Nat × Nat) := (0, 999) :: (List.range 63).map (fun k => (k + 3, 999))
theorem wClJ_lw : lawW wClJ = true := by decide
theorem wClJ_P : bDj wClJ bPr = true := by decide
theorem wM_lw : lawW wM = true := by decide
theorem cF_bFr {hp hp1 : amH} (F : cF hp hp1) : bFr wClJ hp hp1 := fun c k e => by
  refine F c k ?_
  rcases Nat.lt_or_ge c 66 with g | g
  · by_cases c1 : c = 1
    · exact Or.inl c1
    · by_cases c2 : c = 2
      · exact Or.inr (Or.inl c2)
      · exfalso
        have h : bIn wClJ c k = true := by
          refine bIn_all ?_ k
          have d : ∀ c : Fin 66, ¬ c.1 = 1 → ¬ c.1 = 2 → bIn wClJ c.1 999 = true := by decide
          exact d ⟨c, g⟩ c1 c2
        rw [h] at e
        cases e
  · exact Or.inr (Or.inr g)
theorem cF_rf {hp hp1 : amH} {q : sR} {n : Nat} {h : Nat → sR} {sv : Option sR} (F : cF hp hp1) (hS : rfS hp q n h sv) : rfS hp1 q n h sv := by
  have e : ∀ c i, 66 ≤ c → rN hp1 c i = rN hp c i := fun c i hc => rN_eq (F c i (Or.inr (Or.inr hc)))
  refine ⟨?_, hyR_fr hS.2 (e 66 5 (by omega)) (e 66 6 (by omega)) (fun i => e 70 i (by omega)) (fun i => e 71 i (by omega))⟩
  rw [show rN hp1 67 = rN hp 67 from funext (fun i => e 67 i (by omega))]
  exact hS.1
theorem wM_cl {hp hp1 : amH} {q : sR} {n : Nat} {h : Nat → sR} {sv : Option sR} (F : bFr wM hp hp1) (hS : clS hp q n h sv) : clS hp1 q n h sv := clS_8 hS (fun c k hc => F c k (bIn_out (fun p hp z => by
  have d : ∀ p ∈ wM, 66 ≤ p.1 := by decide
  have := d p hp
  omega)))
/-- a step on both sides -/
theorem st_join {g : Int} {hp1 hp2 : amH} {q q1 : sR} {n n1 : Nat} {h h1 : Nat → sR} {sv sv1 : Option sR} (c : (g = 0 ∧ clS hp1 q1 n1 h1 sv1) ∨ (¬ g = 0 ∧ clS hp1 q n h sv)) (r : (g = 0 ∧ rfS hp2 q1 n1 h1 sv1) ∨ (¬ g = 0 ∧ rfS hp2 q n h sv)) (F : bFr wM hp1 hp2) : stS hp2 := by
  rcases c with ⟨c0, c⟩ | ⟨c0, c⟩ <;> rcases r with ⟨r0, r⟩ | ⟨r0, r⟩
  · exact ⟨_, _, _, _, wM_cl F c, r⟩
  · exact absurd c0 r0
  · exact absurd r0 c0
  · exact ⟨_, _, _, _, wM_cl F c, r⟩
theorem law_cl {hp hp1 : amH} (hI : lawI hp) (hH1 : bHk 84 bTT hp1) (F : cF hp hp1) : lawI hp1 := lawI_fr hI hH1 (P0_W (W := wClJ) wClJ_P (cF_bFr F) hI.2.1) (cF_bFr F) wClJ_lw wClJ_lw
theorem law_rf {hp1 hp2 : amH} (hI : lawI hp1) (hH2 : bHk 84 bTT hp2) (hP2 : P0 hp2) (F : bFr wM hp1 hp2) : lawI hp2 := lawI_fr hI hH2 hP2 F wM_lw wM_lw
end
/-! ##### 19.m.101.42c ##### -/
section
/-! ===== helpers that catch, exactly ===== -/
section CJ
variable {sc : Option (List Int32)} {M : amM} {pc a b d : Nat} {L : List (Option Value)} {st : List Value} {hp : amH} {Q : cQ}
theorem ci2lE (q : Nat) {x : Int32} (h : xI M pc .i2l a b) (e : q = pc + 1) (hw : ∀ z : Int64, z.toInt = x.toInt → cV sc d M q L (.long z :: st) hp Q) : cV sc d M pc L (.int x :: st) hp Q := by
  refine cstep h (fun cl hl => ⟨cl, ?_, hl⟩) (hw x.toInt64 (Int32.toInt_toInt64 x))
  subst e
  simp [amDo, amStep, amI]
theorem clastE (q : Nat) {x : Int32} {v : Int64} (hH : bHk 84 bTT hp) (h : xI M pc .lastore a b) (e : q = pc + 1) (hx : x.toInt = 0) (hw : ∀ hp1, bHk 84 bTT hp1 → bFr [(83, 999)] hp hp1 → rJ hp1 83 0 = v.toInt → cV sc d M q L st hp1 Q) : cV sc d M pc L (.long v :: .int x :: .ref 83 :: st) hp Q := by
  obtain ⟨⟨t1, vs⟩, g1, g2⟩ := bHk_at hH (i := 83) (by decide) (D := (33, 1, [.inr (.inl 1)])) rfl
  have t33 : t1 = 33 := g2.1
  subst t33
  have g3 : vs.length = 1 := g2.2.1
  obtain ⟨e1, e2⟩ := rw_in (i := x) (n := 0) (m := vs.length) (by omega) (by omega)
  have hJ : rJ (hp.set 83 (33, vs.set 0 (.long v))) 83 0 = v.toInt := by
    unfold rJ
    rw [bFld_set (d := (33, vs)) g1, if_pos rfl]
    rw [show (vs.set 0 (Value.long v))[0]? = some (.long v) from by rw [List.getElem?_set_self (by omega)]]
  refine cstep h (fun cl hl => ⟨cl, ?_, hl⟩) (hw (hp.set 83 (33, vs.set 0 (.long v))) (bHk_set hH rfl (bHc_set g2 (y := .inr (.inl 1)) rfl (Or.inl ⟨rfl, _, rfl⟩))) (bFr_set (d := (33, vs)) g1 rfl) hJ)
  subst e
  simp only [amDo, amStep, amASt, g1, e1, e2, amIsJ, and_self, if_true, id, Option.map_some]
end CJ
/-- a call with an exact contract, thrown or not -/
theorem qKE {d k : Nat} {av : List Value} {hp : amH} {S : cQ} {Φ : Int32 → amH → Prop} {Ψ : Nat → amH → Prop} (h : ∀ R : xQ, (∀ z hp1, Φ z hp1 → R (.inl (some (.int z))) hp1) → (∀ E hp1, Ψ E hp1 → R (.inr E) hp1) → xK d k av hp R) (hS : ∀ z hp1, Φ z hp1 → S (.inl (some (.int z))) hp1 0 0) (hE : ∀ E hp1, Ψ E hp1 → S (.inr E) hp1 1 6) : cK d k av hp S := by
  refine cK_mono (cK_of (h (fun y hp1 => (∃ z, y = .inl (some (.int z)) ∧ Φ z hp1) ∨ ∃ E, y = .inr E ∧ Ψ E hp1) (fun z hp1 g => Or.inl ⟨z, rfl, g⟩) (fun E hp1 g => Or.inr ⟨E, rfl, g⟩))) (fun y hp1 mc ms hh => ?_)
  obtain ⟨rfl, rfl, hh⟩ := hh
  rcases hh with ⟨z, rfl, g⟩ | ⟨E, rfl, g⟩
  · exact hS z hp1 g
  · exact hE E hp1 g
/-- the class's cells kept beside out -/
theorem cl_83 {hp hp1 : amH} {q : sR} {n : Nat} {h : Nat → sR} {sv : Option sR} (F : bFr [(83, 999)] hp hp1) (hS : clS hp q n h sv) : clS hp1 q n h sv := clS_8 hS (fun c k hc => F c k (bIn_out (fun p hp z => by
  have d : ∀ p ∈ [((83 : Nat), (999 : Nat))], p.1 = 83 := by decide
  have := d p hp
  omega)))
theorem rf_83 {hp hp1 : amH} {q : sR} {n : Nat} {h : Nat → sR} {sv : Option sR} (F : bFr [(83, 999)] hp hp1) (hS : rfS hp q n h sv) : rfS hp1 q n h sv := rfS_W hS F (fun _ => rfl) rfl rfl (fun _ => rfl) (fun _ => rfl)
theorem u355J : bUp 0 am_m355.1 = true := by decide +kernel
theorem h355J {d : Nat} {hp : amH} {R : cQ} {x1 x2 x3 : Int32} {V n : Nat} {h : Nat → sR} {sv : Option sR} {T : sT} {ty : Nat → Int} (hI : lawI hp) (c : clS hp (V, T, ty) n h sv) (r : rfS hp (V, T, ty) n h sv)
    (hR : ∀ (z : Int32) hp1 mc ms, lawI hp1 → rfS hp1 (V, T, ty) n h sv → z.toInt = aCd V T x1.toInt x2.toInt x3.toInt → ((¬ aCd V T x1.toInt x2.toInt x3.toInt = 0 ∧ clS hp1 (V, T, ty) n h sv) ∨ (aCd V T x1.toInt x2.toInt x3.toInt = 0 ∧ clS hp1 (V, sPut T x1.toInt.toNat x2.toInt.toNat x3.toInt.toNat, ty) (pM n + 1) (pH n h (V, T, ty)) sv ∧ rJ hp1 83 0 = nmT (sPut T x1.toInt.toNat x2.toInt.toNat x3.toInt.toNat) (m3 x1.toInt.toNat x2.toInt.toNat x3.toInt.toNat))) → mc ≤ 1 → ms ≤ 6 → R (.inl (some (.int z))) hp1 mc ms) : cK (d + 20) 355 [.ref 0, .int x1, .int x2, .int x3, .ref 83] hp R := by
  refine cin (M := am_m355) rfl rfl rfl ?_
  refine cald2 2 ⟨u355J, _, rfl⟩ rfl rfl ?_
  refine ccst 3 (0) ⟨u355J, _, rfl⟩ rfl (by decide) (fun z2 h2 => ?_)
  refine cald 4 ⟨u355J, _, rfl⟩ rfl rfl ?_
  refine cild 5 ⟨u355J, _, rfl⟩ rfl rfl ?_
  refine cild 6 ⟨u355J, _, rfl⟩ rfl rfl ?_
  refine cild 7 ⟨u355J, _, rfl⟩ rfl rfl ?_
  refine ccall (kd := 0) (t := 3) [.ref 0, .int _, .int _, .int _] [.int _, .ref 83] hI.1 ⟨u355J, _, rfl⟩ (Or.inl ⟨_, rfl, rfl, by decide, by decide⟩) rfl rfl rfl ⟨rfl, rfl, rfl⟩ rfl (recv0 hI.1 _) rfl (qKE (Φ := fun z hp1 => bHk 84 bTT hp1 ∧ cF hp hp1 ∧ aCd V T x1.toInt x2.toInt x3.toInt = 0 ∧ clS hp1 (V, sPut T x1.toInt.toNat x2.toInt.toNat x3.toInt.toNat, ty) (pM n + 1) (pH n h (V, T, ty)) sv ∧ z.toInt = nmT (sPut T x1.toInt.toNat x2.toInt.toNat x3.toInt.toNat) (m3 x1.toInt.toNat x2.toInt.toNat x3.toInt.toNat)) (Ψ := fun E hp1 => hp1 = hp ∧ ¬ aCd V T x1.toInt x2.toInt x3.toInt = 0 ∧ exE (aCd V T x1.toInt x2.toInt x3.toInt) E) (fun R g1 g2 => k_126E (d := d + 13) hI.1 c (fun E e1 e2 => g2 E hp ⟨rfl, e1, e2⟩) (fun z hp1 a1 a2 a3 a4 a5 => g1 z hp1 ⟨a1, a2, a3, a4, a5⟩)) (fun z hp1 φ => Or.inl ⟨_, rfl, ?_⟩) (fun E hp1 ψ => Or.inr ?_))
  · refine ci2lE 11 ⟨u355J, _, rfl⟩ rfl (fun w hw => ?_)
    refine clastE 12 φ.1 ⟨u355J, _, rfl⟩ rfl h2 (fun hp2 hH2 F2 J2 => ?_)
    refine cgoto ⟨u355J, _, rfl⟩ ?_
    refine ccst 28 (0) ⟨u355J, _, rfl⟩ rfl (by decide) (fun z9 h9 => ?_)
    exact cret ⟨u355J, _, rfl⟩ (Or.inl rfl) (hR _ _ _ _ (lawI_83 (law_cl hI φ.1 φ.2.1) hH2 F2) (rf_83 F2 (cF_rf φ.2.1 r)) (by rw [φ.2.2.1]; exact h9) (Or.inr ⟨φ.2.2.1, cl_83 F2 φ.2.2.2.1, by rw [J2, hw]; exact φ.2.2.2.2⟩) (by decide) (by decide))
  · obtain ⟨rfl, ψ1, ψ2⟩ := ψ
    rcases ψ2 with ⟨ce, rfl⟩ | ⟨ce, rfl⟩ | ⟨ce, rfl⟩
    · refine ⟨1, 15, 5, 17, rfl, rfl, rfl, rfl, ?_⟩
      refine ccst 18 (1) ⟨u355J, _, rfl⟩ rfl (by decide) (fun z9 h9 => ?_)
      exact cret ⟨u355J, _, rfl⟩ (Or.inl rfl) (hR _ _ _ _ hI r (by rw [ce]; exact h9) (Or.inl ⟨ψ1, c⟩) (by decide) (by decide))
    · refine ⟨0, 19, 5, 21, rfl, rfl, rfl, rfl, ?_⟩
      refine ccst 22 (2) ⟨u355J, _, rfl⟩ rfl (by decide) (fun z9 h9 => ?_)
      exact cret ⟨u355J, _, rfl⟩ (Or.inl rfl) (hR _ _ _ _ hI r (by rw [ce]; exact h9) (Or.inl ⟨ψ1, c⟩) (by decide) (by decide))
    · refine ⟨2, 23, 5, 25, rfl, rfl, rfl, rfl, ?_⟩
      refine ccst 26 (3) ⟨u355J, _, rfl⟩ rfl (by decide) (fun z9 h9 => ?_)
      exact cret ⟨u355J, _, rfl⟩ (Or.inl rfl) (hR _ _ _ _ hI r (by rw [ce]; exact h9) (Or.inl ⟨ψ1, c⟩) (by decide) (by decide))
end
