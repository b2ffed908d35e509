/-! ===== quadsOf on both sides ===== -/
/-- how many of the first quadrilaterals have a triple -/
def qoC (T : sT) (t n : Nat) : Nat := sm (fun q => iv (hitQ T [t] (cQ2 T q) = true)) n
theorem cP_sm {h : Nat → Bool} : ∀ L : List Nat, L.countP h = sm (fun q => iv (h (L.getD q 0) = true)) L.length := by
  intro L
  induction L using List.reverseRecOn with
  | nil => rfl
  | append_singleton L x ih =>
    rw [List.countP_append, List.length_append, List.length_singleton, ih]
    show _ = sm (fun q => iv (h ((L ++ [x]).getD q 0) = true)) L.length + iv (h ((L ++ [x]).getD L.length 0) = true)
    rw [sm_ext (g := fun q => iv (h (L.getD q 0) = true)) L.length (fun i hi => by rw [gd_app hi]), gd_end]
    congr 1
    by_cases g : h x = true
    · rw [iv_t g]; simp [g]
    · rw [iv_f g]; simp [g]
theorem qoC_P {T : sT} {t : Nat} : (fL (qdB T) 42875).countP (hitQ T [t]) = qoC T t (nQ T) := cP_sm _
theorem qL_ris {V n : Nat} {T : sT} (hT : sOk V T) (hn : n < 42875) (h : qdB T n = true) : ris (qL T n) := by
  obtain ⟨⟨⟨b1, b2, b3, b4⟩, -⟩, ⟨l1, l2, l3⟩, -⟩ := qd_X hT hn h
  have l35 := trL_35 hT 225
  exact ⟨⟨by omega, fun y hy => by simp at hy; omega⟩, ⟨by omega, fun y hy => by simp at hy; omega⟩, ⟨by omega, fun y hy => by simp at hy; omega⟩, ⟨by omega, fun y hy => by simp at hy⟩, trivial⟩
/-- the k-th of the four numbers of a quadrilateral -/
theorem qo_4 {T : sT} {n t : Nat} (hr : ris (qL T n)) : iv (hitQ T [t] n = true) = iv ((qL T n).getD 0 0 = t) + iv ((qL T n).getD 1 0 = t) + iv ((qL T n).getD 2 0 = t) + iv ((qL T n).getD 3 0 = t) := by
  have h1 : n / 1225 < n / 35 % 35 := hr.1.2 _ (by simp)
  have h2 : n / 35 % 35 < n % 35 := hr.2.1.2 _ (by simp)
  have h3 : n % 35 < ql T n := hr.2.2.1.2 _ (by simp)
  have e : hitQ T [t] n = true ↔ (n / 1225 = t ∨ n / 35 % 35 = t ∨ n % 35 = t ∨ ql T n = t) := by
    unfold hitQ qL
    simp [List.any_cons]
  rw [iv_eq e]
  show _ = iv (n / 1225 = t) + iv (n / 35 % 35 = t) + iv (n % 35 = t) + iv (ql T n = t)
  rw [iv_or (fun z => by omega), iv_or (fun z => by omega), iv_or (fun z => by omega)]
  omega
theorem qoC_le {T : sT} {p : Nat} : ∀ n, qoC T p n ≤ n
  | 0 => Nat.le_refl _
  | n + 1 => by
    have h1 := qoC_le (T := T) (p := p) n
    have h2 : iv (hitQ T [p] (cQ2 T n) = true) ≤ 1 := iv_le
    show qoC T p n + iv (hitQ T [p] (cQ2 T n) = true) ≤ n + 1
    omega
theorem u135 : bUp 0 am_m135.1 = true := by decide +kernel
theorem k_135E {d V n : Nat} {h : Nat → sR} {sv : Option sR} {T : sT} {ty : Nat → Int} {hp : amH} {R : xQ} {a : Int32} (hH : bHk 84 bTT hp) (hS : clS hp (V, T, ty) n h sv)
    (hT : ∀ E hp1, bHk 84 bTT hp1 → cF hp hp1 → clS hp1 (V, T, ty) n h sv → ¬ gTri (trL T 225).length a.toInt = 0 → ((gTri (trL T 225).length a.toInt = 1 ∧ E = 1)) → R (.inr E) hp1)
    (hR : ∀ (z : Int32) hp1, bHk 84 bTT hp1 → cF hp hp1 → gTri (trL T 225).length a.toInt = 0 → clS hp1 (V, T, ty) n h sv → z.toInt = ((qoC T a.toInt.toNat (nQ T) : Nat) : Int) → R (.inl (some (.int z))) hp1) : xK (d + 4) 135 [.ref 0, .int a] hp R := by
  have hB : bdOk hp 3 V T := hS.1
  have b0 : rN hp 3 0 = (V : Int) := hB.1
  have hL : lsN hp 3 T 225 := hS.2.1
  have b1 : rN hp 3 1 = (((trL T 225).length : Nat) : Int) := hL.1
  have hT0 : sOk V T := hB.2.1
  have h15 : V ≤ 15 := hT0.2.1
  have l35 : (trL T 225).length ≤ 35 := trL_35 hT0 225
  refine xin (M := am_m135) rfl rfl rfl ?_
  refine xald 1 ⟨u135, _, rfl⟩ rfl rfl ?_
  refine xild 2 ⟨u135, _, rfl⟩ rfl rfl ?_
  refine xcallT 5 (o := 0) [.int _] [] hH ⟨u135, _, rfl⟩ rfl rfl (by decide) rfl (by decide) rfl ⟨rfl, rfl, rfl, rfl⟩ rfl (k_rqt hH b1 (fun g2 => Or.inl ⟨_, rfl, ?_⟩) (fun g2 => Or.inr ⟨_, rfl, rfl, hT _ hp hH cF.refl hS (by omega) ⟨g2, rfl⟩⟩))
  have k2 := gTri_0.mp g2
  refine xald 6 ⟨u135, _, rfl⟩ rfl rfl ?_
  refine xgetD 9 (49) hH ⟨u135, _, rfl⟩ rfl (by decide) (by decide) rfl rfl (by decide) ?_
  refine xlcst 10 (1) ⟨u135, _, rfl⟩ rfl (by decide) (fun z9 h9 => ?_)
  refine xild 11 ⟨u135, _, rfl⟩ rfl rfl ?_
  refine xlshl 12 ⟨u135, _, rfl⟩ rfl ?_
  have e11 := j_shl h9 (k := a.toInt.toNat) (c := a) (by omega) (by omega)
  refine xcallC 15 (o := 49) [.long _] [] hH ⟨u135, _, rfl⟩ rfl rfl (by decide) rfl (by decide) rfl ⟨rfl, rfl, rfl, rfl⟩ rfl (k_hdA (x := 2 ^ a.toInt.toNat) (D := [a.toInt.toNat]) hH hT0 hS.2.2.1 e11 (fun u => by rw [p2_test, decide_eq_true_iff]; simp) (fun z12 h12 => ⟨_, rfl, ?_⟩))
  rw [qoC_P] at h12
  exact xret ⟨u135, _, rfl⟩ rfl (hR _ _ hH cF.refl g2 hS h12)
/-- of the numbers in the reference's row those that are t -/
def qrC (T : sT) (t n : Nat) : Nat := sm (fun k => iv ((qL T (cQ2 T (k / 4))).getD (k % 4) 0 = t)) n
theorem qr_4 {V : Nat} {T : sT} (hT : sOk V T) {t : Nat} : ∀ n, n ≤ nQ T → qrC T t (4 * n) = qoC T t n
  | 0, _ => rfl
  | n + 1, h => by
    have h1 := qr_4 hT (t := t) n (by omega)
    obtain ⟨g1, g2, -⟩ := fL_get 42875 n (show n < (fL (qdB T) 42875).length by omega)
    have hr := qL_ris hT g2 g1
    have e := qo_4 (T := T) (n := cQ2 T n) (t := t) hr
    show qrC T t (4 * n + 4) = qoC T t n + iv (hitQ T [t] (cQ2 T n) = true)
    have e2 : qrC T t (4 * n + 4) = qrC T t (4 * n) + iv ((qL T (cQ2 T (4 * n / 4))).getD (4 * n % 4) 0 = t) + iv ((qL T (cQ2 T ((4 * n + 1) / 4))).getD ((4 * n + 1) % 4) 0 = t) + iv ((qL T (cQ2 T ((4 * n + 2) / 4))).getD ((4 * n + 2) % 4) 0 = t) + iv ((qL T (cQ2 T ((4 * n + 3) / 4))).getD ((4 * n + 3) % 4) 0 = t) := rfl
    rw [e2, show 4 * n / 4 = n by omega, show (4 * n + 1) / 4 = n by omega, show (4 * n + 2) / 4 = n by omega, show (4 * n + 3) / 4 = n by omega, show 4 * n % 4 = 0 by omega, show (4 * n + 1) % 4 = 1 by omega, show (4 * n + 2) % 4 = 2 by omega, show (4 * n + 3) % 4 = 3 by omega]
    omega
theorem qrC_le {T : sT} {p : Nat} : ∀ n, qrC T p n ≤ n
  | 0 => Nat.le_refl _
  | n + 1 => by
    have h1 := qrC_le (T := T) (p := p) n
    have h2 : iv ((qL T (cQ2 T (n / 4))).getD (n % 4) 0 = p) ≤ 1 := iv_le
    show qrC T p n + iv ((qL T (cQ2 T (n / 4))).getD (n % 4) 0 = p) ≤ n + 1
    omega
theorem u291 : bUp 0 am_m291.1 = true := by decide +kernel
theorem l291E {d p V : Nat} {T : sT} {hp : amH} {R : xQ} {a : Int32} (hT : sOk V T) (hH : bHk 84 bTT hp) (hQ : rqN hp T 42875) (ha : a.toInt = (p : Int))
    (hR : ∀ z : Int32, z.toInt = ((qoC T p (nQ T) : Nat) : Int) → R (.inl (some (.int z))) hp) :
    ∀ (jj t : Nat) (w wt : Int32), wt.toInt = (t : Int) → t + jj = 4 * nQ T → w.toInt = ((qrC T p t : Nat) : Int) → xV d am_m291 18 [some (.ref 66), some (.int a), some (.int w), some (.int wt)] [] hp R := by
  have l105 : nQ T ≤ 105 := q105 hT
  have L1 : rN hp 66 14 = ((nQ T : Nat) : Int) := hQ.1
  intro jj
  induction jj with
  | zero =>
    intro t w wt hwt hj hw
    have e4 := qr_4 hT (t := p) (nQ T) (Nat.le_refl _)
    have et : t = 4 * nQ T := by omega
    rw [et, e4] at hw
    refine xild 19 ⟨u291, _, rfl⟩ rfl rfl ?_
    refine xcst 20 (4) ⟨u291, _, rfl⟩ rfl (by decide) (fun z19 h19 => ?_)
    refine xald 21 ⟨u291, _, rfl⟩ rfl rfl ?_
    refine xgetI 24 hH ⟨u291, _, rfl⟩ rfl rfl (fun z21 h21 => ?_)
    refine xmul 25 (4 * Int32.toInt z21) ⟨u291, _, rfl⟩ rfl (by rw [h19]) (by omega) (by omega) (fun z24 h24 => ?_)
    refine xcmp_ge 28 ⟨u291, _, rfl⟩ rfl (fun c25 => ?_) (fun c25 => ?_)
    · refine xild 53 ⟨u291, _, rfl⟩ rfl rfl ?_
      exact xret ⟨u291, _, rfl⟩ rfl (hR _ hw)
    · omega
  | succ jj ih =>
    intro t w wt hwt hj hw
    have k2 := qrC_le (T := T) (p := p) t
    have k3 : qrC T p (t + 1) = qrC T p t + iv ((qL T (cQ2 T (t / 4))).getD (t % 4) 0 = p) := rfl
    have q4 := (rq_get hT hQ (q := t / 4) (show t / 4 < nQ T by omega)).1 (t % 4) (by omega)
    rw [show 4 * (t / 4) + t % 4 = t by omega] at q4
    refine xild 19 ⟨u291, _, rfl⟩ rfl rfl ?_
    refine xcst 20 (4) ⟨u291, _, rfl⟩ rfl (by decide) (fun z19 h19 => ?_)
    refine xald 21 ⟨u291, _, rfl⟩ rfl rfl ?_
    refine xgetI 24 hH ⟨u291, _, rfl⟩ rfl rfl (fun z21 h21 => ?_)
    refine xmul 25 (4 * Int32.toInt z21) ⟨u291, _, rfl⟩ rfl (by rw [h19]) (by omega) (by omega) (fun z24 h24 => ?_)
    refine xcmp_ge 28 ⟨u291, _, rfl⟩ rfl (fun c25 => ?_) (fun c25 => ?_)
    · omega
    · refine xild 29 ⟨u291, _, rfl⟩ rfl rfl ?_
      refine xald 30 ⟨u291, _, rfl⟩ rfl rfl ?_
      refine xgetR 33 76 hH ⟨u291, _, rfl⟩ rfl rfl ?_
      refine xild 34 ⟨u291, _, rfl⟩ rfl rfl ?_
      refine xiald 35 (wt).toInt.toNat hH ⟨u291, _, rfl⟩ rfl (by decide) rfl (by omega) (by omega) (fun z34 h34 => ?_)
      refine xild 36 ⟨u291, _, rfl⟩ rfl rfl ?_
      refine xcmp_ne 39 ⟨u291, _, rfl⟩ rfl (fun c36 => ?_) (fun c36 => ?_)
      · refine xcst 44 (0) ⟨u291, _, rfl⟩ rfl (by decide) (fun z43 h43 => ?_)
        refine xadd 45 _ ⟨u291, _, rfl⟩ rfl rfl (by omega) (by omega) (fun z44 h44 => ?_)
        refine xist 46 ⟨u291, _, rfl⟩ rfl rfl ?_
        refine xinc 49 (1) ⟨u291, _, rfl⟩ rfl rfl rfl (by decide) (by omega) (by omega) (fun z46 h46 => ?_)
        refine xgoto ⟨u291, _, rfl⟩ ?_
        rw [iv_f (p := (qL T (cQ2 T (t / 4))).getD (t % 4) 0 = p) (by rw [show wt.toInt.toNat = t by omega] at h34; omega)] at k3
        exact ih (t + 1) _ _ (by omega) (by omega) (by omega)
      · refine xcst 40 (1) ⟨u291, _, rfl⟩ rfl (by decide) (fun z39 h39 => ?_)
        refine xgoto ⟨u291, _, rfl⟩ ?_
        refine xadd 45 _ ⟨u291, _, rfl⟩ rfl rfl (by omega) (by omega) (fun z44 h44 => ?_)
        refine xist 46 ⟨u291, _, rfl⟩ rfl rfl ?_
        refine xinc 49 (1) ⟨u291, _, rfl⟩ rfl rfl rfl (by decide) (by omega) (by omega) (fun z46 h46 => ?_)
        refine xgoto ⟨u291, _, rfl⟩ ?_
        rw [iv_t (p := (qL T (cQ2 T (t / 4))).getD (t % 4) 0 = p) (by rw [show wt.toInt.toNat = t by omega] at h34; omega)] at k3
        exact ih (t + 1) _ _ (by omega) (by omega) (by omega)
theorem k_291E {d V n : Nat} {h : Nat → sR} {sv : Option sR} {T : sT} {ty : Nat → Int} {hp : amH} {R : xQ} {a : Int32} (hH : bHk 84 bTT hp) (hP : P0 hp) (hS : rfS hp (V, T, ty) n h sv)
    (hR : ∀ (z : Int32) hp1, bHk 84 bTT hp1 → P0 hp1 → bFr wM hp hp1 → rN hp1 66 7 = gTri (trL T 225).length a.toInt → ((¬ gTri (trL T 225).length a.toInt = 0 ∧ rfS hp1 (V, T, ty) n h sv) ∨ (gTri (trL T 225).length a.toInt = 0 ∧ rfS hp1 (V, T, ty) n h sv ∧ z.toInt = ((qoC T a.toInt.toNat (nQ T) : Nat) : Int))) → R (.inl (some (.int z))) hp1) : xK (d + 6) 291 [.ref 66, .int a] hp R := by
  have hB : rdOk hp V T := rowOk_rd hS.1
  have b0 : rN hp 67 0 = (V : Int) := hB.1
  have hT0 : sOk V T := hB.2.1
  have h15 : V ≤ 15 := hT0.2.1
  have l35 : (trL T 225).length ≤ 35 := trL_35 hT0 225
  refine xin (M := am_m291) rfl rfl rfl ?_
  refine xald 1 ⟨u291, _, rfl⟩ rfl rfl ?_
  refine xild 2 ⟨u291, _, rfl⟩ rfl rfl ?_
  refine xcall 5 [.ref 66, .int _] [] hH ⟨u291, _, rfl⟩ rfl rfl rfl rfl rfl (k_gpt hH hB (fun z2 hp2 hH2 F2 B2 L2 t2 o2 => ⟨_, rfl, ?_⟩))
  have S2 := rfS_W hS F2 (fun _ => rfl) rfl rfl (fun _ => rfl) (fun _ => rfl)
  have P2 : P0 hp2 := P0_W (W := (66, 7) :: bLT) (by decide) F2 hP
  refine xif_eq 8 ⟨u291, _, rfl⟩ rfl (fun c5 => ?_) (fun c5 => ?_)
  · have g2 : gTri (trL T 225).length a.toInt = 0 := by omega
    have k2 := gTri_0.mp g2
    refine xald 11 ⟨u291, _, rfl⟩ rfl rfl ?_
    refine xcall 14 [.ref 66] [] hH2 ⟨u291, _, rfl⟩ rfl rfl rfl rfl rfl (k_lqs hH2 B2 (q105 hT0) (fun hp11 hH11 F11 B11 L11 Q11 => ⟨_, rfl, ?_⟩))
    have S11 := rfS_W S2 F11 (fun _ => rfl) rfl rfl (fun _ => rfl) (fun _ => rfl)
    have P11 : P0 hp11 := P0_W (W := wLQE) (by decide) F11 P2
    refine xcst 15 (0) ⟨u291, _, rfl⟩ rfl (by decide) (fun z14 h14 => ?_)
    refine xist 16 ⟨u291, _, rfl⟩ rfl rfl ?_
    refine xcst 17 (0) ⟨u291, _, rfl⟩ rfl (by decide) (fun z16 h16 => ?_)
    refine xist 18 ⟨u291, _, rfl⟩ rfl rfl ?_
    exact l291E hT0 hH11 Q11 (p := a.toInt.toNat) (by omega) (fun z h => hR z hp11 hH11 P11 ((bFr_sub F2 (by decide)).trans (bFr_sub F11 (by decide))) (by rw [show rN hp11 66 7 = rN hp2 66 7 from r_fr F11 rfl]; exact t2) (Or.inr ⟨g2, S11, h⟩)) (4 * nQ T) 0 _ _ h16 (by omega) h14
  · refine xcst 9 (0) ⟨u291, _, rfl⟩ rfl (by decide) (fun z8 h8 => ?_)
    exact xret ⟨u291, _, rfl⟩ rfl (hR _ hp2 hH2 P2 (bFr_sub F2 (by decide)) t2 (Or.inl ⟨by omega, S2⟩))
theorem h361E {d : Nat} {hp : amH} {R : cQ} {x1 : Int32} {V n : Nat} {h : Nat → sR} {sv : Option sR} {T : sT} {ty : Nat → Int} (hI : lawI hp) (c : clS hp (V, T, ty) n h sv) (r : rfS hp (V, T, ty) n h sv)
    (hR : ∀ (z : Int32) hp1 mc ms, lawI hp1 → rfS hp1 (V, T, ty) n h sv → z.toInt = gTri (trL T 225).length x1.toInt → ((¬ gTri (trL T 225).length x1.toInt = 0 ∧ clS hp1 (V, T, ty) n h sv) ∨ (gTri (trL T 225).length x1.toInt = 0 ∧ clS hp1 (V, T, ty) n h sv ∧ rJ hp1 83 0 = ((qoC T x1.toInt.toNat (nQ T) : Nat) : Int))) → mc ≤ 1 → ms ≤ 6 → R (.inl (some (.int z))) hp1 mc ms) : cK (d + 20) 361 [.ref 0, .int x1, .ref 83] hp R := by
  refine cin (M := am_m361) rfl rfl rfl ?_
  refine cald 1 ⟨u361J, _, rfl⟩ rfl rfl ?_
  refine ccst 2 (0) ⟨u361J, _, rfl⟩ rfl (by decide) (fun z1 h1 => ?_)
  refine cald 3 ⟨u361J, _, rfl⟩ rfl rfl ?_
  refine cild 4 ⟨u361J, _, rfl⟩ rfl rfl ?_
  refine ccall (kd := 0) (t := 1) [.ref 0, .int _] [.int _, .ref 83] hI.1 ⟨u361J, _, rfl⟩ (Or.inl ⟨_, rfl, rfl, by decide, by decide⟩) rfl rfl rfl ⟨rfl, rfl, rfl⟩ rfl (recv0 hI.1 _) rfl (qKE (Φ := fun z hp1 => bHk 84 bTT hp1 ∧ cF hp hp1 ∧ gTri (trL T 225).length x1.toInt = 0 ∧ clS hp1 (V, T, ty) n h sv ∧ z.toInt = ((qoC T x1.toInt.toNat (nQ T) : Nat) : Int)) (Ψ := fun E hp1 => lawI hp1 ∧ rfS hp1 (V, T, ty) n h sv ∧ clS hp1 (V, T, ty) n h sv ∧ ¬ gTri (trL T 225).length x1.toInt = 0 ∧ ((gTri (trL T 225).length x1.toInt = 1 ∧ E = 1))) (fun R g1 g2 => k_135E (d := d + 15) hI.1 c (fun E hp1 b1 b2 b3 e1 e2 => g2 E hp1 ⟨law_cl hI b1 b2, cF_rf b2 r, b3, e1, e2⟩) (fun z hp1 a1 a2 a3 a4 a5 => g1 z hp1 ⟨a1, a2, a3, a4, a5⟩)) (fun z hp1 φ => Or.inl ⟨_, rfl, ?_⟩) (fun E hp1 ψ => Or.inr ?_))
  · refine ci2lE 8 ⟨u361J, _, rfl⟩ rfl (fun w hw => ?_)
    refine clastE 9 φ.1 ⟨u361J, _, rfl⟩ rfl h1 (fun hp2 hH2 F2 J2 => ?_)
    refine cgoto ⟨u361J, _, rfl⟩ ?_
    refine ccst 16 (0) ⟨u361J, _, rfl⟩ rfl (by decide) (fun z9 h9 => ?_)
    exact cret ⟨u361J, _, rfl⟩ (Or.inl rfl) (hR _ _ _ _ (lawI_83 (law_cl hI φ.1 φ.2.1) hH2 F2) (rf_83 F2 (cF_rf φ.2.1 r)) (by rw [φ.2.2.1]; exact h9) (Or.inr ⟨φ.2.2.1, cl_83 F2 φ.2.2.2.1, by rw [J2, hw]; exact φ.2.2.2.2⟩) (by decide) (by decide))
  · obtain ⟨ψ0, ψr, ψc, ψ1, ψ2⟩ := ψ
    obtain ⟨ce, rfl⟩ := ψ2
    refine ⟨1, 12, 3, 13, rfl, rfl, rfl, rfl, ?_⟩
    refine ccst 14 (1) ⟨u361J, _, rfl⟩ rfl (by decide) (fun z9 h9 => ?_)
    exact cret ⟨u361J, _, rfl⟩ (Or.inl rfl) (hR _ _ _ _ ψ0 ψr (by rw [ce]; exact h9) (Or.inl ⟨ψ1, ψc⟩) (by decide) (by decide))
