/-! ===== whole frames: the induction ===== -/
section AMF
variable {l : Launch} {D : va_G} {dA : Nat → ClassId} {sA : Nat → Nat} {G : Nat → Option amM} {X : Nat → Option amN}
theorem amDo_ret {M : amM} {sc : Option (List Int32)} {i : Instr} {a b pc : Nat} {ls : amL} {st : List Value} {hp : amH} {v : Option Value} (h : amDo G M sc i a b pc ls st hp = some (.inr (.inl v))) : amRetV M.2.2.2.2.1 i st = some v ∧ amSz i = 1 := by
  unfold amDo at h
  split at h
  case h_1 =>
    split at h
    · obtain ⟨-, -, -, -, e1⟩ := amMake_s h; cases e1
    · split at h <;> cases h
  case h_2 => obtain ⟨_, _, _, _, -, -, -, -, h⟩ := amMakeA_s h; obtain ⟨-, -, -, -, e1⟩ := amMake_s h; cases e1
  case h_3 => obtain ⟨_, _, _, _, -, -, -, -, h⟩ := amMakeA_s h; obtain ⟨-, -, -, -, e1⟩ := amMake_s h; cases e1
  case h_4 =>
    split at h
    · obtain ⟨_, _, _, -, -, -, e1⟩ := amLenS_s h; cases e1
    · split at h
      · obtain ⟨_, _, _, _, -, e1⟩ := amChrX_e h; cases e1
      · obtain ⟨_, _, _, -, -, -, -, -, -, -, -, e1⟩ := amCall_s h; cases e1
  case h_5 =>
    split at h
    · obtain ⟨_, _, -, e1⟩ := amCopyY_e h; cases e1
    · obtain ⟨_, _, _, -, -, -, -, -, -, -, -, e1⟩ := amCall_s h; cases e1
  case h_6 =>
    split at h
    · obtain ⟨_, _, -, -, e1⟩ := amObj_s h; cases e1
    · obtain ⟨_, _, _, -, -, -, -, -, -, -, -, e1⟩ := amCall_s h; cases e1
  case h_7 => obtain ⟨w, h1, e1⟩ := Option.map_eq_some_iff.mp h; cases e1; exact ⟨h1, rfl⟩
  case h_8 => obtain ⟨w, h1, e1⟩ := Option.map_eq_some_iff.mp h; cases e1; exact ⟨h1, rfl⟩
  case h_9 => obtain ⟨w, h1, e1⟩ := Option.map_eq_some_iff.mp h; cases e1; exact ⟨h1, rfl⟩
  case h_10 => obtain ⟨w, h1, e1⟩ := Option.map_eq_some_iff.mp h; cases e1; exact ⟨h1, rfl⟩
  case h_11 => obtain ⟨w, h1, e1⟩ := Option.map_eq_some_iff.mp h; cases e1; exact ⟨h1, rfl⟩
  case h_12 => obtain ⟨w, h1, e1⟩ := Option.map_eq_some_iff.mp h; cases e1; exact ⟨h1, rfl⟩
  case h_13 => obtain ⟨_, _, _, -, -, -, -, -, -, -, -, e1⟩ := amCall_s h; cases e1
  case h_14 => obtain ⟨w, h1, e1⟩ := Option.map_eq_some_iff.mp h; cases e1
theorem amDo_thr {M : amM} {sc : Option (List Int32)} {i : Instr} {a b pc E : Nat} {ls : amL} {st : List Value} {hp : amH} (h : amDo G M sc i a b pc ls st hp = some (.inr (.inr (.inl E)))) : ∃ k, i = .new k ∧ ¬ b = 0 ∧ E = a ∧ (st.map fun v => v.category).sum ≤ 8 ∧ M.2.2.2.2.2.1 = [] := by
  unfold amDo at h
  split at h
  case h_1 k =>
    split at h
    · obtain ⟨-, -, -, -, e1⟩ := amMake_s h; cases e1
    · next hb =>
      split at h
      · next e2 => cases h; exact ⟨k, rfl, hb, rfl, e2.1, e2.2⟩
      · cases h
  case h_2 => obtain ⟨_, _, _, _, -, -, -, -, h⟩ := amMakeA_s h; obtain ⟨-, -, -, -, e1⟩ := amMake_s h; cases e1
  case h_3 => obtain ⟨_, _, _, _, -, -, -, -, h⟩ := amMakeA_s h; obtain ⟨-, -, -, -, e1⟩ := amMake_s h; cases e1
  case h_4 =>
    split at h
    · obtain ⟨_, _, _, -, -, -, e1⟩ := amLenS_s h; cases e1
    · split at h
      · obtain ⟨_, _, _, _, -, e1⟩ := amChrX_e h; cases e1
      · obtain ⟨_, _, _, -, -, -, -, -, -, -, -, e1⟩ := amCall_s h; cases e1
  case h_5 =>
    split at h
    · obtain ⟨_, _, -, e1⟩ := amCopyY_e h; cases e1
    · obtain ⟨_, _, _, -, -, -, -, -, -, -, -, e1⟩ := amCall_s h; cases e1
  case h_6 =>
    split at h
    · obtain ⟨_, _, -, -, e1⟩ := amObj_s h; cases e1
    · obtain ⟨_, _, _, -, -, -, -, -, -, -, -, e1⟩ := amCall_s h; cases e1
  case h_7 => obtain ⟨w, h1, e1⟩ := Option.map_eq_some_iff.mp h; cases e1
  case h_8 => obtain ⟨w, h1, e1⟩ := Option.map_eq_some_iff.mp h; cases e1
  case h_9 => obtain ⟨w, h1, e1⟩ := Option.map_eq_some_iff.mp h; cases e1
  case h_10 => obtain ⟨w, h1, e1⟩ := Option.map_eq_some_iff.mp h; cases e1
  case h_11 => obtain ⟨w, h1, e1⟩ := Option.map_eq_some_iff.mp h; cases e1
  case h_12 => obtain ⟨w, h1, e1⟩ := Option.map_eq_some_iff.mp h; cases e1
  case h_13 => obtain ⟨_, _, _, -, -, -, -, -, -, -, -, e1⟩ := amCall_s h; cases e1
  case h_14 => obtain ⟨w, h1, e1⟩ := Option.map_eq_some_iff.mp h; cases e1
theorem amDrop_ls {ad : Nat → Nat} {ls : amL} {i : Nat} {nL : Nat} {v : Value} {lsA : Array Slot} (h : lv_has lsA nL ((i, v) :: (amLs ad ls).filter (fun q => !(q.1 == i) && !(q.1 + 1 == i && q.2.category == 2)))) : lv_has lsA nL (amLs ad (amDrop ls i)) := by
  refine ⟨h.1, h.2.1, fun q hq => h.2.2 q (List.mem_cons_of_mem _ ?_)⟩
  have e : amLs ad (amDrop ls i) = (amLs ad ls).filter (fun q => !(q.1 == i) && !(q.1 + 1 == i && q.2.category == 2)) := by
    simp [amLs, amDrop, List.filter_map, Function.comp_def, amV_cat]
  rw [← e]
  exact hq
theorem amOkL_drop {n : Nat} {ls : amL} {i : Nat} (h : amOkL n ls = true) : amOkL n (amDrop ls i) = true := by
  unfold amOkL at h ⊢
  rw [List.all_eq_true] at h ⊢
  intro q hq
  exact h q (List.mem_filter.mp hq).1
theorem amDo_call {M : amM} {sc : Option (List Int32)} {i : Instr} {a b pc : Nat} {ls : amL} {st : List Value} {hp : amH} {z : Nat × List Value × List Value} (ea : amDo G M sc i a b pc ls st hp = some (.inr (.inr (.inr z)))) : amOkL hp.length ls = true := by
  unfold amDo at ea
  split at ea
  case h_1 =>
    split at ea
    · obtain ⟨-, -, -, -, e1⟩ := amMake_s ea; cases e1
    · split at ea <;> cases ea
  case h_2 => obtain ⟨_, _, _, _, -, -, -, -, ea⟩ := amMakeA_s ea; obtain ⟨-, -, -, -, e1⟩ := amMake_s ea; cases e1
  case h_3 => obtain ⟨_, _, _, _, -, -, -, -, ea⟩ := amMakeA_s ea; obtain ⟨-, -, -, -, e1⟩ := amMake_s ea; cases e1
  case h_4 =>
    split at ea
    · obtain ⟨_, _, _, -, -, -, e1⟩ := amLenS_s ea; cases e1
    · split at ea
      · obtain ⟨_, _, _, _, -, e1⟩ := amChrX_e ea; cases e1
      · obtain ⟨_, _, _, -, -, -, o, -⟩ := amCall_s ea; exact o
  case h_5 =>
    split at ea
    · obtain ⟨_, _, -, e1⟩ := amCopyY_e ea; cases e1
    · obtain ⟨_, _, _, -, -, -, o, -⟩ := amCall_s ea; exact o
  case h_6 =>
    split at ea
    · obtain ⟨_, _, -, -, e1⟩ := amObj_s ea; cases e1
    · obtain ⟨_, _, _, -, -, -, o, -⟩ := amCall_s ea; exact o
  case h_7 => obtain ⟨w, -, e1⟩ := Option.map_eq_some_iff.mp ea; cases e1
  case h_8 => obtain ⟨w, -, e1⟩ := Option.map_eq_some_iff.mp ea; cases e1
  case h_9 => obtain ⟨w, -, e1⟩ := Option.map_eq_some_iff.mp ea; cases e1
  case h_10 => obtain ⟨w, -, e1⟩ := Option.map_eq_some_iff.mp ea; cases e1
  case h_11 => obtain ⟨w, -, e1⟩ := Option.map_eq_some_iff.mp ea; cases e1
  case h_12 => obtain ⟨w, -, e1⟩ := Option.map_eq_some_iff.mp ea; cases e1
  case h_13 => obtain ⟨_, _, _, -, -, -, o, -⟩ := amCall_s ea; exact o
  case h_14 => obtain ⟨w, -, e1⟩ := Option.map_eq_some_iff.mp ea; cases e1
set_option maxHeartbeats 4000000 in
theorem am_FR_succ (hus : ∀ (ci : Nat) (r : vw_C), vwCl[ci]? = some r → ∀ w ∈ u_ws r.1 r.2.1 r.2.2, w ∈ amWL) (hcl : amClOk) (hGM : ∀ k M, G k = some M → M.2.1 ≤ 100) {f : Nat} (hFR : amFR l D dA sA G X f) (hCT : amCT l D dA sA G X f) : amFR l D dA sA G X (f + 1) := by
  intro p e R s m args below meth c A Q N M sc d n0 ad0 x hp1 mc ms C hs0 Er Et Ex cs pc ls st hp kc ks ad H locs lsA hcs h hag hn0 hl hP hD hS
  have hsA : ∀ j, ad (amK + j) = sA j := fun j => (hag _ (Or.inr (Nat.le_add_right _ _))).trans (hs0 j)
  obtain ⟨hx, hb, hml, hown, hts, hG, hZ, hA, hini, htab, hMk, hR, hsc⟩ := id C
  have next := hFR p e R s m args below meth c A Q N M sc d n0 ad0 x hp1 mc ms C hs0 Er Et Ex
  cases cs with
  | nil => unfold amRun at h; cases h
  | cons q cs =>
    obtain ⟨q0, i, a, b⟩ := q
    have hcs' : ∀ z ∈ cs, z ∈ M.1 := fun z hz => hcs z (List.mem_cons_of_mem _ hz)
    have hE : amEok G X N M (q0, i, a, b) := hMk.2.2.2.2 _ (hcs _ List.mem_cons_self)
    unfold amRun at h
    dsimp only at h
    split at h
    · next hq =>
      subst hq
      split at h
      · cases h
      · next r dk ds ea =>
        obtain ⟨m1, m2, m3⟩ := amRun_mono _ _ _ _ _ _ _ _ _ _ _ _ _ _ _ h
        refine am_act hx hb hml hts hown hG hZ hus hcl hini hsA hsc hA hE ⟨by omega, by omega⟩ ⟨by omega, by omega⟩ ea ⟨by omega, by omega⟩ hl hP hD hS (fun ad1 H1 locs1 lsA1 g1 g2 g3 g4 g5 => ?_)
        have hlen := amDo_len ea
        exact next _ _ _ _ _ _ _ ad1 H1 locs1 lsA1 (am_next_in hcs') h (hag.trans hn0 g1) (Nat.le_trans hn0 hlen) g5 g2 g3 g4
      · next v ea =>
        cases h
        obtain ⟨e1, e2⟩ := amDo_ret ea
        obtain ⟨⟨n, hd, hn⟩, -, -⟩ := hE
        dsimp only at hd hn
        rw [e2] at hn
        obtain rfl : n = 1 := by rcases hn with hn | hn <;> first | exact hn | cases hn
        exact Er v i _ st ad H locs lsA rfl hd e1 hag hP hD hS
      · next E ea =>
        cases h
        obtain ⟨k, rfl, hb0, rfl, hcat, hh⟩ := amDo_thr ea
        obtain ⟨⟨n, hd, hn⟩, -, hlk2⟩ := hE
        dsimp only at hd hn hlk2
        obtain rfl : n = 3 := by rcases hn with hn | hn <;> first | exact hn | cases hn
        unfold amLk2 at hlk2
        dsimp only at hlk2
        rw [if_neg hb0] at hlk2
        exact Et _ b k kc ks _ st ad H locs lsA rfl hd hlk2 hh hcat hl.1 rfl rfl hag hP hD hS
      · next k av rest ea =>
        split at h
        · next d' Nk eG =>
          split at h
          · next v hp2 mc2 ms2 er =>
            obtain ⟨m1, m2, m3⟩ := amRun_mono _ _ _ _ _ _ _ _ _ _ _ _ _ _ _ h
            obtain ⟨-, -, m4⟩ := amRun_mono _ _ _ _ _ _ _ _ _ _ _ _ _ _ _ er
            have key := am_callAct (e := e) (below := below) (Q := Q) C hE ea eG (x := .inl v) (mc := mc2) (ms := ms2) (kc := kc) (ks := ks) (fun Nk2 hX hav => hCT (amSub k sc) k Nk2 Nk d' av hp hp2 (.inl v) mc2 ms2 ad H.size hX eG hsA hav er) (hGM _ _ eG) hsA (fun _ => ⟨v, rfl⟩) ⟨by omega, by omega⟩ hl hP hD hS
            have hok : amOkL hp.length ls = true := amDo_call ea
            exact (key (fun w ad1 H1 locs1 ew g1 g2 g3 g4 => by
              cases ew
              exact next _ _ _ _ _ _ _ ad1 H1 locs1 lsA (am_next_in hcs') h (hag.trans hn0 g1) (Nat.le_trans hn0 m4) (by rw [amLs_ag hok g1]; exact hl) g2 g3 g4) (fun k9 E ce q9 ad1 H1 locs1 ew => by cases ew)).2
          · next E hp2 mc2 ms2 er =>
            split at h
            · cases h
            · next hmay =>
              obtain ⟨-, -, m4⟩ := amRun_mono _ _ _ _ _ _ _ _ _ _ _ _ _ _ _ er
              split at h
              · next hh =>
                cases h
                exact (am_callAct (Q := Q) C hE ea eG (x := .inr E) (mc := mc2) (ms := ms2) (kc := kc) (ks := ks) (fun Nk2 hX hav => hCT (amSub k sc) k Nk2 Nk d' av hp hp1 (.inr E) mc2 ms2 ad H.size hX eG hsA hav er) (hGM _ _ eG) hsA (fun z => absurd z hmay) ⟨by omega, by omega⟩ hl hP hD hS
                  (fun w ad1 H1 locs1 ew => by cases ew)
                  (fun k9 En ce q9 ad1 H1 locs1 ew hEn g1 g2 g3 g4 g5 g6 g7 => by
                    cases ew
                    exact Ex E En ce q9 _ _ ad1 H1 locs1 lsA rfl hEn hh (hag.trans hn0 g1) g2 g3 g4 g5 g6 g7)).2
              · next hh =>
                split at h
                · next hq x9 to eh =>
                  obtain ⟨m1, m2, m3⟩ := amRun_mono _ _ _ _ _ _ _ _ _ _ _ _ _ _ _ h
                  have key := am_callAct (e := e) (below := below) (Q := Q) C hE ea eG (x := .inr E) (mc := mc2) (ms := ms2) (kc := kc) (ks := ks) (fun Nk2 hX hav => hCT (amSub k sc) k Nk2 Nk d' av hp hp2 (.inr E) mc2 ms2 ad H.size hX eG hsA hav er) (hGM _ _ eG) hsA (fun z => absurd z hmay) ⟨by omega, by omega⟩ hl hP hD hS (fun w ad1 H1 locs1 ew => by cases ew)
                  have hok : amOkL hp.length ls = true := amDo_call ea
                  refine (key (fun k9 En ce q9 ad1 H1 locs1 ew hEn g1 g2 g3 g4 g5 g6 g7 => ?_)).2
                  cases ew
                  obtain ⟨pre, z, suf, t1, t2, t3, t4, t5, t6, t7, t8, t9⟩ := hMk.2.2.2.1.2 _ _ _ _ _ En eh hEn
                  refine vx_catch (name := En) hown pre z suf (htab.trans t1) (fun y hy => (t2 y hy).imp id (fun ⟨w1, nm, w2, w3⟩ => ⟨w1, nm, hts _ w2, hG.2.2.2.1 _ w3⟩)) t3 t4 (hts _ t6) (va_Nw.use rfl (hG.2.2.1 _ t7 rfl)) g5 g6 g7 ?_
                  rw [t5]
                  have fin : ∀ lsB : Array Slot, lv_has lsB M.2.1 ((x9, Value.ref q9) :: (amLs ad1 ls).filter (fun q => !(q.1 == x9) && !(q.1 + 1 == x9 && q.2.category == 2))) → W p l e R s m args below meth c H1 locs1 (kc + mc2) (ks + ms2) Q (F0 m to lsB []) := fun lsB hB =>
                    next _ _ _ _ _ _ _ ad1 H1 locs1 lsB (am_seek_in) h (hag.trans hn0 g1) (Nat.le_trans hn0 m4) (amDrop_ls hB) g2 g3 g4
                  have hl1 : lv_has lsA M.2.1 (amLs ad1 ls) := by rw [amLs_ag hok g1]; exact hl
                  rcases t9 with ⟨j, hj, hdj, rfl⟩ | ⟨hdj, rfl⟩
                  · exact lv_astore_n hx hb hdj hj hl1 t8 rfl fin
                  · exact lv_astore hx hb hdj hl1 t8 rfl fin
                · cases h
          · cases h
        · cases h
    · cases h
set_option maxHeartbeats 8000000 in
theorem am_con (hlt : l.stackTraces = false) (hT : ∀ k N M, X k = some N → G k = some M → amMk G X N M) {f : Nat} (hFR : amFR l D dA sA G X f) : amCT l D dA sA G X f := by
  intro sc k N M d av hp hp1 x mc ms ad sz hX hG' hsA hcat h
  have hMk := hT k N M hX hG'
  refine am_ofW (cc := N.2.1) (maxL := M.2.1) (ret := M.2.2.2.2.1) (hh := N.2.2) hMk.1 rfl ?_
  intro p e s m args below meth c s₁ B hml htab hv
  obtain ⟨rfl, rfl, hG, hP, hD, hZ⟩ := hv
  have hpre := atoms_spec (ws := amHd N M :: amWL) B.pre
  have hlocks := B.notSynchronized
  have hx := B.exec
  have hb := B.bytes
  have hown : s.vm.findClass N.1.cls = some m.cls := findClass_of_methodNamed B.named
  have C : amCx p (headSpec (amHd N M :: amWL) (amRm d mc ms)).room s m (av.map (amV ad)).toArray meth c (va_A (amW dA ad hp) s.heap.size) D dA sA G X N M sc d mc ms :=
    ⟨hx, hb, hml, hown, fun w hw => hpre w (List.mem_cons_of_mem _ hw), hG, hZ, fun q h => Or.inr h, fun hi => (name_of_methodNamed B.named B.method).1.trans (hMk.2.2.1 hi), htab, hMk, ⟨Nat.le_refl _, Nat.le_refl _, Nat.le_refl _, Nat.le_refl _⟩, hZ.2.2.2.2⟩
  rw [lg_entry_eq]
  have hlen : (lg_sl (av.map (amV ad))).length ≤ M.2.1 := by
    rw [am_sl_len, List.map_map]
    simpa [Function.comp_def, amV_cat] using hcat
  have hl := lv_entry (av.map (amV ad)) hlen
  rw [← am_args_ls] at hl
  refine hFR p e _ s m _ below meth c _ (vx_MQ below (amQ D dA ad hp.length (va_A (amW dA ad hp) s.heap.size) x hp1) (amX D dA ad hp.length (va_A (amW dA ad hp) s.heap.size) x hp1) (av.map (amV ad)).toArray s mc ms (va_A (amW dA ad hp) s.heap.size)) N M sc d hp.length ad x hp1 mc ms C hsA ?_ ?_ ?_ M.1 0 (lv_args 0 av) [] hp 0 0 ad s.heap [] _ (fun q h => h) h (amAg.refl _ _) (Nat.le_refl _) hl hP hD.self va_S.rf
  · intro v i pc st ad1 H locs lsA hxv hd hret hag hP1 hD1 hS1
    refine vx_ret ?_
    have post : ∀ t : State, t.heap = H → amQ D dA ad hp.length (va_A (amW dA ad hp) s.heap.size) x hp1 (av.map (amV ad)).toArray s (.returned (v.map (amV ad1))) t := fun t ht => ⟨v, ad1, hxv, rfl, hag, by rw [ht]; exact hP1, hD1, hS1.F ht⟩
    rcases amRetV_s hret with ⟨ty, z, rfl, e1, rfl, e2, rfl⟩ | ⟨z, rfl, e1, rfl, rfl⟩ | ⟨z, rfl, e1, rfl, rfl⟩ | ⟨z, rfl, e1, rfl, rfl⟩ | ⟨rfl, e1, rfl, rfl⟩ | ⟨w9, ty9, rfl, e1, e2, rfl, e3, rfl⟩
    · exact W.zret hx hb (B.returns.trans e1) e2 (fun t ht _ => post t ht) hS1.2.2 hd
    · exact W.lret hx hb (B.returns.trans e1) (fun t ht _ => post t ht) hS1.2.2 hd
    · exact W.fret hx hb (B.returns.trans e1) (fun t ht _ => post t ht) hS1.2.2 hd
    · exact W.dret hx hb (B.returns.trans e1) (fun t ht _ => post t ht) hS1.2.2 hd
    · exact W.vret hx hb (B.returns.trans e1) (fun t ht _ => post t ht) hS1.2.2 hd
    · exact W.aret hx hb (B.returns.trans e1) e2 (by cases w9 <;> first | exact Or.inl rfl | exact Or.inr ⟨_, rfl⟩ | cases e3) (fun t ht _ => post t ht) hS1.2.2 hd
  · intro a b kk kc ks pc st ad1 H locs lsA hxv hd hthr hh hcat1 hsz hkc hks hag hP1 hD1 hS1
    obtain ⟨cls, is, text, ic, t1, t2, t3, t4, t5, t6, t7, t8⟩ := hthr
    have hts := fun w hw => hpre w (List.mem_cons_of_mem _ hw)
    have hempty : c.exceptionTable.toList = [] := by
      rw [htab]
      rw [hMk.2.2.2.1.1 hh]
      rfl
    have hcat2 : ((st.map (amV ad1)).map fun v => v.category).sum ≤ 8 := by
      rw [List.map_map]
      simpa [Function.comp_def, amV_cat] using hcat1
    have hfr : amXn.length + 3 < (headSpec (amHd N M :: amWL) (amRm d mc ms)).room.frames := by show 2 + 3 < d + 8; omega
    have hlo : ((st.map (amV ad1)).map fun v => v.category).sum + (13 * (amXn.length + 1) + 43) ≤ (headSpec (amHd N M :: amWL) (amRm d mc ms)).room.locals := by show _ + (13 * (2 + 1) + 43) ≤ 128 * (d + 1); omega
    have hxx : ∀ t : State, s.vm.Alike t.vm → H.size ≤ t.heap.size → (∀ q : Nat, q < H.size → t.heap[q]? = H[q]?) → amX D dA ad hp.length (va_A (amW dA ad hp) s.heap.size) x hp1 cls s t := fun t _ u1 u2 =>
      ⟨a, ad1, hxv, t1, hag, hP1.kept (fun k q hk => u2 q.1 ((hP1 k q hk).lt)), hD1, Nat.le_trans hS1.1 u1, fun q v1 v2 => (u2 q (Nat.lt_of_lt_of_le v1 hS1.1)).trans (hS1.2.1 q v1 v2)⟩
    rcases t6 with ⟨rfl, hown9, rfl⟩ | t6
    · have hcls : cls = amNS := (Option.some.inj t1).symm
      subst hcls
      have hat : ∀ w ∈ am_nw.filter vx_no, w.before (av.map (amV ad)).toArray s = true := fun w hw => by
        obtain ⟨u1, u2, u3⟩ := am_nOk w hw
        rcases u3 with u3 | ⟨u3, u4⟩
        · exact hts w (amWL_in u2 u3)
        · exact va_Nw.use u4 (hG.2.2.1 w u2 u3)
      rw [hown9] at t4
      have hown1 : s.vm.findClass "TripleTrains" = some m.cls := hown9 ▸ hown
      have hstr1 := hG.2.1 _ _ t2
      dsimp only at hstr1
      rw [hown9] at hstr1
      split at t8
      · exact am_throwN (k := 6) (sa := sA ((b - 1) / 2)) hx hb hlt hown1 (hts _ t4) (hts _ t5) hstr1 hat (fun w hw => (am_nOk w hw).1) hZ.1 hZ.2.1 hS1 (hsz.trans hml.symm) hd t7 (Or.inl ⟨t8.1, rfl⟩) t8.2.1 t8.2.2 (by rw [hempty]; intro z hz; cases hz) (by show 5 < d + 8; omega) (by show _ + 82 ≤ 128 * (d + 1); omega) (by show kc + 1 ≤ mc; omega) (by show ks + 6 ≤ ms; omega) hlocks hxx hS1.2.2 (by omega) (by omega)
      · exact am_throwN (k := 7) (sa := sA ((b - 1) / 2)) hx hb hlt hown1 (hts _ t4) (hts _ t5) hstr1 hat (fun w hw => (am_nOk w hw).1) hZ.1 hZ.2.1 hS1 (hsz.trans hml.symm) hd t7 (Or.inr ⟨t8.1, rfl⟩) t8.2.1 t8.2.2 (by rw [hempty]; intro z hz; cases hz) (by show 5 < d + 8; omega) (by show _ + 82 ≤ 128 * (d + 1); omega) (by show kc + 1 ≤ mc; omega) (by show ks + 6 ≤ ms; omega) hlocks hxx hS1.2.2 (by omega) (by omega)
    · have hat : ∀ w ∈ vx_atS N.1.cls ic cls amXn, w.before (av.map (amV ad)).toArray s = true := fun w hw => by
        obtain ⟨u1, u2, u3⟩ := t6 w hw
        rcases u3 with u3 | ⟨u3, u4⟩
        · exact hts w (amWL_in u2 u3)
        · exact va_Nw.use u4 (hG.2.2.1 w u2 u3)
      have hgood : ∀ w ∈ Jvm.Cond.classLink N.1.cls kk cls :: Jvm.Cond.initialized cls :: vx_atS N.1.cls ic cls amXn, vx_ot w = true := fun w hw => by
        rcases List.mem_cons.mp hw with rfl | hw
        · rfl
        · rcases List.mem_cons.mp hw with rfl | hw
          · rfl
          · exact (t6 w hw).1
      have hfit : ∀ n ∈ amXn, Bundle.fit n = true := by decide +kernel
      have hstr2 := hG.2.1 _ _ t2
      dsimp only at hstr2
      split at t8
      · exact vx_throwS (sa := sA ((b - 1) / 2)) hx hb hlt hown t3 hfit (hts _ t4) (hts _ t5) hstr2 hat hgood hZ.1 hZ.2.1 hS1 (hsz.trans hml.symm) hd t7 t8.1 t8.2.1 t8.2.2 (by rw [hempty]; intro z hz; cases hz) hfr hlo (by show kc + 1 ≤ mc; omega) (by show ks + 6 ≤ ms; omega) hlocks hxx hS1.2.2 (by omega) (by omega)
      · exact vx_throwSW (sa := sA ((b - 1) / 2)) hx hb hlt hown t3 hfit (hts _ t4) (hts _ t5) hstr2 hat hgood hZ.1 hZ.2.1 hS1 (hsz.trans hml.symm) hd t7 t8.1 t8.2.1 t8.2.2 (by rw [hempty]; intro z hz; cases hz) hfr hlo (by show kc + 1 ≤ mc; omega) (by show ks + 6 ≤ ms; omega) hlocks hxx hS1.2.2 (by omega) (by omega)
  · intro E En ce q9 pc st ad1 H locs lsA hxv hEn hh hag hP1 hD1 hS1 g1 g2 g3
    have hempty : c.exceptionTable.toList = [] := by
      rw [htab, hMk.2.2.2.1.1 hh]
      rfl
    exact vx_out (by rw [hempty]; intro z hz; cases hz) hlocks g1 g2 g3 (fun t ht _ => ⟨E, ad1, hxv, hEn, hag, by rw [ht]; exact hP1, hD1, hS1.F ht⟩) hS1.2.2 (Nat.le_refl _) (Nat.le_refl _)
theorem am_all (hlt : l.stackTraces = false) (hus : ∀ (ci : Nat) (r : vw_C), vwCl[ci]? = some r → ∀ w ∈ u_ws r.1 r.2.1 r.2.2, w ∈ amWL) (hcl : amClOk) (hGM : ∀ k M, G k = some M → M.2.1 ≤ 100) (hT : ∀ k N M, X k = some N → G k = some M → amMk G X N M) : ∀ f, amFR l D dA sA G X f := by
  intro f
  induction f with
  | zero =>
    intro p e R s m args below meth c A Q N M sc d n0 ad0 x hp1 mc ms C hs0 Er Et Ex cs pc ls st hp kc ks ad H locs lsA hcs h
    unfold amRun at h
    cases h
  | succ f ih => exact am_FR_succ hus hcl hGM ih (am_con hlt hT ih)
end AMF
