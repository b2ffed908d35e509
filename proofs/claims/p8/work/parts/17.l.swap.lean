/-! ===== ways by hand: swap and turn from outside ===== -/
theorem P0_68 {hp hp1 : amH} (hF : bFr [(68, 999)] hp hp1) (hP : P0 hp) : P0 hp1 := P0_no hP hF (fun z => absurd z (by decide)) (fun z => absurd z (by decide)) (fun z => absurd z (by decide)) (by decide) (by decide)
