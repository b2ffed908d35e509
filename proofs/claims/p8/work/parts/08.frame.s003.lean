section AMF
variable {l : Launch} {D : va_G} {dA : Nat → ClassId} {sA : Nat → Nat} {G : Nat → Option amM} {X : Nat → Option amN}
set_option maxHeartbeats 4000000 in
theorem am_FR_succ (hus : ∀ (ci : Nat) (r : vw_C), vwCl[ci]? = some r → ∀ w ∈ u_ws r.1 r.2.1 r.2.2, w ∈ amWL) (hcl : amClOk) (hGM : ∀ k M, G k = some M → M.2.1 ≤ 100) {f : Nat} (hFR : amFR l D dA sA G X f) (hCT : amCT l D dA sA G X f) : amFR l D dA sA G X (f + 1) := by
  intro p e R s m args below meth c A Q N M sc d n0 ad0 x hp1 mc ms C hs0 Er Et Ex cs pc ls st hp kc ks ad H locs lsA hcs h hag hn0 hl hP hD hS
  have hsA : ∀ j, ad (amK + j) = sA j := fun j => (hag _ (Or.inr (Nat.le_add_right _ _))).trans (hs0 j)
  obtain ⟨hx, hb, hml, hown, hts, hG, hZ, hA, hini, htab, hMk, hR, hsc⟩ := id C
  have next := hFR p e R s m args below meth c A Q N M sc d n0 ad0 x hp1 mc ms C hs0 Er Et Ex
  cases cs with
  | nil => unfold amRun at h; cases h
  | cons q cs =>
    obtain ⟨q0, i, a, b⟩ := q
    have hcs' : ∀ z ∈ cs, z ∈ M.1 := fun z hz => hcs z (List.mem_cons_of_mem _ hz)
    have hE : amEok G X N M (q0, i, a, b) := hMk.2.2.2.2 _ (hcs _ List.mem_cons_self)
    unfold amRun at h
    dsimp only at h
    split at h
    · next hq =>
      subst hq
      split at h
      · cases h
      · next r dk ds ea =>
        obtain ⟨m1, m2, m3⟩ := amRun_mono _ _ _ _ _ _ _ _ _ _ _ _ _ _ _ h
        refine am_act hx hb hml hts hown hG hZ hus hcl hini hsA hsc hA hE ⟨by omega, by omega⟩ ⟨by omega, by omega⟩ ea ⟨by omega, by omega⟩ hl hP hD hS (fun ad1 H1 locs1 lsA1 g1 g2 g3 g4 g5 => ?_)
        have hlen := amDo_len ea
        exact next _ _ _ _ _ _ _ ad1 H1 locs1 lsA1 (am_next_in hcs') h (hag.trans hn0 g1) (Nat.le_trans hn0 hlen) g5 g2 g3 g4
      · next v ea =>
        cases h
        obtain ⟨e1, e2⟩ := amDo_ret ea
        obtain ⟨⟨n, hd, hn⟩, -, -⟩ := hE
        dsimp only at hd hn
        rw [e2] at hn
        obtain rfl : n = 1 := by rcases hn with hn | hn <;> first | exact hn | cases hn
        exact Er v i _ st ad H locs lsA rfl hd e1 hag hP hD hS
      · next E ea =>
        cases h
        obtain ⟨k, rfl, hb0, rfl, hcat, hh⟩ := amDo_thr ea
        obtain ⟨⟨n, hd, hn⟩, -, hlk2⟩ := hE
        dsimp only at hd hn hlk2
        obtain rfl : n = 3 := by rcases hn with hn | hn <;> first | exact hn | cases hn
        unfold amLk2 at hlk2
        dsimp only at hlk2
        rw [if_neg hb0] at hlk2
        exact Et _ b k kc ks _ st ad H locs lsA rfl hd hlk2 hh hcat hl.1 rfl rfl hag hP hD hS
      · next k av rest ea =>
        split at h
        · next d' Nk eG =>
          split at h
          · next v hp2 mc2 ms2 er =>
            obtain ⟨m1, m2, m3⟩ := amRun_mono _ _ _ _ _ _ _ _ _ _ _ _ _ _ _ h
            obtain ⟨-, -, m4⟩ := amRun_mono _ _ _ _ _ _ _ _ _ _ _ _ _ _ _ er
            have key := am_callAct (e := e) (below := below) (Q := Q) C hE ea eG (x := .inl v) (mc := mc2) (ms := ms2) (kc := kc) (ks := ks) (fun Nk2 hX hav => hCT k Nk2 Nk d' av hp hp2 (.inl v) mc2 ms2 ad H.size hX eG hsA hav er) (hGM _ _ eG) (fun _ => ⟨v, rfl⟩) ⟨by omega, by omega⟩ hl hP hD hS
            have hok : amOkL hp.length ls = true := by
              unfold amDo at ea
              split at ea
              case h_1 =>
                split at ea
                · obtain ⟨-, -, -, -, e1⟩ := amMake_s ea; cases e1
                · split at ea <;> cases ea
              case h_2 => obtain ⟨_, _, _, _, -, -, -, -, ea⟩ := amMakeA_s ea; obtain ⟨-, -, -, -, e1⟩ := amMake_s ea; cases e1
              case h_3 => obtain ⟨_, _, _, _, -, -, -, -, ea⟩ := amMakeA_s ea; obtain ⟨-, -, -, -, e1⟩ := amMake_s ea; cases e1
              case h_4 =>
                split at ea
                · obtain ⟨_, _, _, -, -, -, e1⟩ := amLenS_s ea; cases e1
                · split at ea
                  · obtain ⟨_, _, _, _, -, -, -, -, e1⟩ := amChrS_s ea; cases e1
                  · obtain ⟨_, _, _, -, -, -, o, -⟩ := amCall_s ea; exact o
              case h_5 =>
                split at ea
                · obtain ⟨_, _, _, _, _, _, _, _, -, -, -, -, -, -, -, -, -, e1⟩ := amCopy_s ea; cases e1
                · obtain ⟨_, _, _, -, -, -, o, -⟩ := amCall_s ea; exact o
              case h_6 =>
                split at ea
                · obtain ⟨_, _, -, -, e1⟩ := amObj_s ea; cases e1
                · obtain ⟨_, _, _, -, -, -, o, -⟩ := amCall_s ea; exact o
              case h_7 => obtain ⟨w, -, e1⟩ := Option.map_eq_some_iff.mp ea; cases e1
              case h_8 => obtain ⟨w, -, e1⟩ := Option.map_eq_some_iff.mp ea; cases e1
              case h_9 => obtain ⟨w, -, e1⟩ := Option.map_eq_some_iff.mp ea; cases e1
              case h_10 => obtain ⟨w, -, e1⟩ := Option.map_eq_some_iff.mp ea; cases e1
              case h_11 => obtain ⟨w, -, e1⟩ := Option.map_eq_some_iff.mp ea; cases e1
              case h_12 => obtain ⟨w, -, e1⟩ := Option.map_eq_some_iff.mp ea; cases e1
            exact (key (fun w ad1 H1 locs1 ew g1 g2 g3 g4 => by
              cases ew
              exact next _ _ _ _ _ _ _ ad1 H1 locs1 lsA (am_next_in hcs') h (hag.trans hn0 g1) (Nat.le_trans hn0 m4) (by rw [amLs_ag hok g1]; exact hl) g2 g3 g4) (fun k9 E ce q9 ad1 H1 locs1 ew => by cases ew)).2
          · next E hp2 mc2 ms2 er =>
            split at h
            · cases h
            · next hmay =>
              obtain ⟨-, -, m4⟩ := amRun_mono _ _ _ _ _ _ _ _ _ _ _ _ _ _ _ er
              split at h
              · next hh =>
                cases h
                exact (am_callAct (Q := Q) C hE ea eG (x := .inr E) (mc := mc2) (ms := ms2) (kc := kc) (ks := ks) (fun Nk2 hX hav => hCT k Nk2 Nk d' av hp hp1 (.inr E) mc2 ms2 ad H.size hX eG hsA hav er) (hGM _ _ eG) (fun z => absurd z hmay) ⟨by omega, by omega⟩ hl hP hD hS
                  (fun w ad1 H1 locs1 ew => by cases ew)
                  (fun k9 En ce q9 ad1 H1 locs1 ew hEn g1 g2 g3 g4 g5 g6 g7 => by
                    cases ew
                    exact Ex E En ce q9 _ _ ad1 H1 locs1 lsA rfl hEn hh (hag.trans hn0 g1) g2 g3 g4 g5 g6 g7)).2
              · next hh =>
                split at h
                · next hq x9 to eh =>
                  obtain ⟨m1, m2, m3⟩ := amRun_mono _ _ _ _ _ _ _ _ _ _ _ _ _ _ _ h
                  have key := am_callAct (e := e) (below := below) (Q := Q) C hE ea eG (x := .inr E) (mc := mc2) (ms := ms2) (kc := kc) (ks := ks) (fun Nk2 hX hav => hCT k Nk2 Nk d' av hp hp2 (.inr E) mc2 ms2 ad H.size hX eG hsA hav er) (hGM _ _ eG) (fun z => absurd z hmay) ⟨by omega, by omega⟩ hl hP hD hS (fun w ad1 H1 locs1 ew => by cases ew)
                  have hok : amOkL hp.length ls = true := by
                    unfold amDo at ea
                    split at ea
                    case h_1 =>
                      split at ea
                      · obtain ⟨-, -, -, -, e1⟩ := amMake_s ea; cases e1
                      · split at ea <;> cases ea
                    case h_2 => obtain ⟨_, _, _, _, -, -, -, -, ea⟩ := amMakeA_s ea; obtain ⟨-, -, -, -, e1⟩ := amMake_s ea; cases e1
                    case h_3 => obtain ⟨_, _, _, _, -, -, -, -, ea⟩ := amMakeA_s ea; obtain ⟨-, -, -, -, e1⟩ := amMake_s ea; cases e1
                    case h_4 =>
                      split at ea
                      · obtain ⟨_, _, _, -, -, -, e1⟩ := amLenS_s ea; cases e1
                      · split at ea
                        · obtain ⟨_, _, _, _, -, -, -, -, e1⟩ := amChrS_s ea; cases e1
                        · obtain ⟨_, _, _, -, -, -, o, -⟩ := amCall_s ea; exact o
                    case h_5 =>
                      split at ea
                      · obtain ⟨_, _, _, _, _, _, _, _, -, -, -, -, -, -, -, -, -, e1⟩ := amCopy_s ea; cases e1
                      · obtain ⟨_, _, _, -, -, -, o, -⟩ := amCall_s ea; exact o
                    case h_6 =>
                      split at ea
                      · obtain ⟨_, _, -, -, e1⟩ := amObj_s ea; cases e1
                      · obtain ⟨_, _, _, -, -, -, o, -⟩ := amCall_s ea; exact o
                    case h_7 => obtain ⟨w, -, e1⟩ := Option.map_eq_some_iff.mp ea; cases e1
                    case h_8 => obtain ⟨w, -, e1⟩ := Option.map_eq_some_iff.mp ea; cases e1
                    case h_9 => obtain ⟨w, -, e1⟩ := Option.map_eq_some_iff.mp ea; cases e1
                    case h_10 => obtain ⟨w, -, e1⟩ := Option.map_eq_some_iff.mp ea; cases e1
                    case h_11 => obtain ⟨w, -, e1⟩ := Option.map_eq_some_iff.mp ea; cases e1
                    case h_12 => obtain ⟨w, -, e1⟩ := Option.map_eq_some_iff.mp ea; cases e1
                  refine (key (fun k9 En ce q9 ad1 H1 locs1 ew hEn g1 g2 g3 g4 g5 g6 g7 => ?_)).2
                  cases ew
                  obtain ⟨pre, z, suf, t1, t2, t3, t4, t5, t6, t7, t8, t9⟩ := hMk.2.2.2.1.2 _ _ _ _ _ En eh hEn
                  refine vx_catch (name := En) hown pre z suf (htab.trans t1) (fun y hy => (t2 y hy).imp id (fun ⟨w1, nm, w2, w3⟩ => ⟨w1, nm, hts _ w2, hG.2.2.2.1 _ w3⟩)) t3 t4 (hts _ t6) (va_Nw.use rfl (hG.2.2.1 _ t7 rfl)) g5 g6 g7 ?_
                  rw [t5]
                  have fin : ∀ lsB : Array Slot, lv_has lsB M.2.1 ((x9, Value.ref q9) :: (amLs ad1 ls).filter (fun q => !(q.1 == x9) && !(q.1 + 1 == x9 && q.2.category == 2))) → W p l e R s m args below meth c H1 locs1 (kc + mc2) (ks + ms2) Q (F0 m to lsB []) := fun lsB hB =>
                    next _ _ _ _ _ _ _ ad1 H1 locs1 lsB (am_seek_in) h (hag.trans hn0 g1) (Nat.le_trans hn0 m4) (amDrop_ls hB) g2 g3 g4
                  have hl1 : lv_has lsA M.2.1 (amLs ad1 ls) := by rw [amLs_ag hok g1]; exact hl
                  rcases t9 with ⟨j, hj, hdj, rfl⟩ | ⟨hdj, rfl⟩
                  · exact lv_astore_n hx hb hdj hj hl1 t8 rfl fin
                  · exact lv_astore hx hb hdj hl1 t8 rfl fin
                · cases h
          · cases h
        · cases h
    · cases h
end AMF
