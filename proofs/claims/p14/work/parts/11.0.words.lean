/-! ===== the words checked, links and callees ===== -/
theorem am_ch0 : ∀ w, w ∈ k2_sels lw_privs → w ∈ lw_tbl := fun w h => (show w ∈ k2_sels lw_privs ++ tables_1 from List.mem_append.mpr (Or.inl h))
theorem am_ch1 : ∀ w, w ∈ tables_1_1 → w ∈ lw_tbl := fun w h => (show w ∈ k2_sels lw_privs ++ tables_1 from List.mem_append.mpr (Or.inr (show w ∈ tables_1 from List.mem_append.mpr (Or.inl h))))
theorem am_ch2 : ∀ w, w ∈ tables_1_2 → w ∈ lw_tbl := fun w h => (show w ∈ k2_sels lw_privs ++ tables_1 from List.mem_append.mpr (Or.inr (show w ∈ tables_1 from List.mem_append.mpr (Or.inr (List.mem_append.mpr (Or.inl h))))))
theorem am_ch3 : ∀ w, w ∈ tables_1_3 → w ∈ lw_tbl := fun w h => (show w ∈ k2_sels lw_privs ++ tables_1 from List.mem_append.mpr (Or.inr (show w ∈ tables_1 from List.mem_append.mpr (Or.inr (List.mem_append.mpr (Or.inr (List.mem_append.mpr (Or.inl h))))))))
theorem am_ch4 : ∀ w, w ∈ tables_1_4 → w ∈ lw_tbl := fun w h => (show w ∈ k2_sels lw_privs ++ tables_1 from List.mem_append.mpr (Or.inr (show w ∈ tables_1 from List.mem_append.mpr (Or.inr (List.mem_append.mpr (Or.inr (List.mem_append.mpr (Or.inr (List.mem_append.mpr (Or.inl h))))))))))
theorem am_ch5 : ∀ w, w ∈ tables_1_5 → w ∈ lw_tbl := fun w h => (show w ∈ k2_sels lw_privs ++ tables_1 from List.mem_append.mpr (Or.inr (show w ∈ tables_1 from List.mem_append.mpr (Or.inr (List.mem_append.mpr (Or.inr (List.mem_append.mpr (Or.inr (List.mem_append.mpr (Or.inr (List.mem_append.mpr (Or.inl h))))))))))))
theorem am_ch6 : ∀ w, w ∈ tables_1_6 → w ∈ lw_tbl := fun w h => (show w ∈ k2_sels lw_privs ++ tables_1 from List.mem_append.mpr (Or.inr (show w ∈ tables_1 from List.mem_append.mpr (Or.inr (List.mem_append.mpr (Or.inr (List.mem_append.mpr (Or.inr (List.mem_append.mpr (Or.inr (List.mem_append.mpr (Or.inr (List.mem_append.mpr (Or.inl h))))))))))))))
theorem am_ch7 : ∀ w, w ∈ tables_1_7 → w ∈ lw_tbl := fun w h => (show w ∈ k2_sels lw_privs ++ tables_1 from List.mem_append.mpr (Or.inr (show w ∈ tables_1 from List.mem_append.mpr (Or.inr (List.mem_append.mpr (Or.inr (List.mem_append.mpr (Or.inr (List.mem_append.mpr (Or.inr (List.mem_append.mpr (Or.inr (List.mem_append.mpr (Or.inr (List.mem_append.mpr (Or.inl h))))))))))))))))
theorem am_ch8 : ∀ w, w ∈ tables_1_8 → w ∈ lw_tbl := fun w h => (show w ∈ k2_sels lw_privs ++ tables_1 from List.mem_append.mpr (Or.inr (show w ∈ tables_1 from List.mem_append.mpr (Or.inr (List.mem_append.mpr (Or.inr (List.mem_append.mpr (Or.inr (List.mem_append.mpr (Or.inr (List.mem_append.mpr (Or.inr (List.mem_append.mpr (Or.inr (List.mem_append.mpr (Or.inr (List.mem_append.mpr (Or.inl h))))))))))))))))))
theorem am_ch9 : ∀ w, w ∈ tables_1_9 → w ∈ lw_tbl := fun w h => (show w ∈ k2_sels lw_privs ++ tables_1 from List.mem_append.mpr (Or.inr (show w ∈ tables_1 from List.mem_append.mpr (Or.inr (List.mem_append.mpr (Or.inr (List.mem_append.mpr (Or.inr (List.mem_append.mpr (Or.inr (List.mem_append.mpr (Or.inr (List.mem_append.mpr (Or.inr (List.mem_append.mpr (Or.inr (List.mem_append.mpr (Or.inr (h)))))))))))))))))))
theorem am_q0 : mck am_O amXX amGG am_R0 0 (fdrop (k2_sels lw_privs) 0) = true := by decide +kernel
theorem am_q1 : mck am_O amXX amGG am_R1 33 (fdrop (k2_sels lw_privs) 33) = true := by decide +kernel
theorem am_q2 : mck am_O amXX amGG am_R2 65 (fdrop (k2_sels lw_privs) 65) = true := by decide +kernel
theorem am_q3 : mck am_O amXX amGG am_R3 97 (fdrop (k2_sels lw_privs) 97) = true := by decide +kernel
theorem am_q4 : mck am_O amXX amGG am_R4 0 (fdrop (tables_1_1) 0) = true := by decide +kernel
theorem am_q5 : mck am_O amXX amGG am_R5 0 (fdrop (tables_1_1) 0) = true := by decide +kernel
theorem am_q6 : mck am_O amXX amGG am_R6 1 (fdrop (tables_1_1) 1) = true := by decide +kernel
theorem am_q7 : mck am_O amXX amGG am_R7 1 (fdrop (tables_1_1) 1) = true := by decide +kernel
theorem am_q8 : mck am_O amXX amGG am_R8 2 (fdrop (tables_1_1) 2) = true := by decide +kernel
theorem am_q9 : mck am_O amXX amGG am_R9 3 (fdrop (tables_1_1) 3) = true := by decide +kernel
theorem am_q10 : mck am_O amXX amGG am_R10 8 (fdrop (tables_1_1) 8) = true := by decide +kernel
theorem am_q11 : mck am_O amXX amGG am_R11 13 (fdrop (tables_1_1) 13) = true := by decide +kernel
theorem am_q12 : mck am_O amXX amGG am_R12 13 (fdrop (tables_1_1) 13) = true := by decide +kernel
theorem am_q13 : mck am_O amXX amGG am_R13 13 (fdrop (tables_1_1) 13) = true := by decide +kernel
theorem am_q14 : mck am_O amXX amGG am_R14 13 (fdrop (tables_1_1) 13) = true := by decide +kernel
theorem am_q15 : mck am_O amXX amGG am_R15 13 (fdrop (tables_1_1) 13) = true := by decide +kernel
theorem am_q16 : mck am_O amXX amGG am_R16 78 (fdrop (tables_1_1) 78) = true := by decide +kernel
theorem am_q17 : mck am_O amXX amGG am_R17 176 (fdrop (tables_1_1) 176) = true := by decide +kernel
theorem am_q18 : mck am_O amXX amGG am_R18 12 (fdrop (tables_1_2) 12) = true := by decide +kernel
theorem am_q19 : mck am_O amXX amGG am_R19 83 (fdrop (tables_1_2) 83) = true := by decide +kernel
theorem am_q20 : mck am_O amXX amGG am_R20 185 (fdrop (tables_1_2) 185) = true := by decide +kernel
theorem am_q21 : mck am_O amXX amGG am_R21 235 (fdrop (tables_1_2) 235) = true := by decide +kernel
theorem am_q22 : mck am_O amXX amGG am_R22 1 (fdrop (tables_1_3) 1) = true := by decide +kernel
theorem am_q23 : mck am_O amXX amGG am_R23 47 (fdrop (tables_1_3) 47) = true := by decide +kernel
theorem am_q24 : mck am_O amXX amGG am_R24 94 (fdrop (tables_1_3) 94) = true := by decide +kernel
theorem am_q25 : mck am_O amXX amGG am_R25 136 (fdrop (tables_1_3) 136) = true := by decide +kernel
theorem am_q26 : mck am_O amXX amGG am_R26 184 (fdrop (tables_1_3) 184) = true := by decide +kernel
theorem am_q27 : mck am_O amXX amGG am_R27 230 (fdrop (tables_1_3) 230) = true := by decide +kernel
theorem am_q28 : mck am_O amXX amGG am_R28 1 (fdrop (tables_1_4) 1) = true := by decide +kernel
theorem am_q29 : mck am_O amXX amGG am_R29 44 (fdrop (tables_1_4) 44) = true := by decide +kernel
theorem am_q30 : mck am_O amXX amGG am_R30 84 (fdrop (tables_1_4) 84) = true := by decide +kernel
theorem am_q31 : mck am_O amXX amGG am_R31 126 (fdrop (tables_1_4) 126) = true := by decide +kernel
theorem am_q32 : mck am_O amXX amGG am_R32 0 (fdrop (tables_1_5) 0) = true := by decide +kernel
theorem am_q33 : mck am_O amXX amGG am_R33 51 (fdrop (tables_1_5) 51) = true := by decide +kernel
theorem am_q34 : mck am_O amXX amGG am_R34 114 (fdrop (tables_1_5) 114) = true := by decide +kernel
theorem am_q35 : mck am_O amXX amGG am_R35 160 (fdrop (tables_1_5) 160) = true := by decide +kernel
theorem am_q36 : mck am_O amXX amGG am_R36 223 (fdrop (tables_1_5) 223) = true := by decide +kernel
theorem am_q37 : mck am_O amXX amGG am_R37 0 (fdrop (tables_1_6) 0) = true := by decide +kernel
theorem am_q38 : mck am_O amXX amGG am_R38 49 (fdrop (tables_1_6) 49) = true := by decide +kernel
theorem am_q39 : mck am_O amXX amGG am_R39 96 (fdrop (tables_1_6) 96) = true := by decide +kernel
theorem am_q40 : mck am_O amXX amGG am_R40 141 (fdrop (tables_1_6) 141) = true := by decide +kernel
theorem am_q41 : mck am_O amXX amGG am_R41 189 (fdrop (tables_1_6) 189) = true := by decide +kernel
theorem am_q42 : mck am_O amXX amGG am_R42 233 (fdrop (tables_1_6) 233) = true := by decide +kernel
theorem am_q43 : mck am_O amXX amGG am_R43 0 (fdrop (tables_1_7) 0) = true := by decide +kernel
theorem am_q44 : mck am_O amXX amGG am_R44 118 (fdrop (tables_1_7) 118) = true := by decide +kernel
theorem am_q45 : mck am_O amXX amGG am_R45 186 (fdrop (tables_1_7) 186) = true := by decide +kernel
theorem am_q46 : mck am_O amXX amGG am_R46 1 (fdrop (tables_1_8) 1) = true := by decide +kernel
theorem am_q47 : mck am_O amXX amGG am_R47 51 (fdrop (tables_1_8) 51) = true := by decide +kernel
theorem am_q48 : mck am_O amXX amGG am_R48 100 (fdrop (tables_1_8) 100) = true := by decide +kernel
theorem am_q49 : mck am_O amXX amGG am_R49 154 (fdrop (tables_1_8) 154) = true := by decide +kernel
theorem am_q50 : mck am_O amXX amGG am_R50 202 (fdrop (tables_1_8) 202) = true := by decide +kernel
theorem am_q51 : mck am_O amXX amGG am_R51 0 (fdrop (tables_1_9) 0) = true := by decide +kernel
theorem am_q52 : mck am_O amXX amGG am_R52 51 (fdrop (tables_1_9) 51) = true := by decide +kernel
theorem am_q53 : mck am_O amXX amGG am_R53 100 (fdrop (tables_1_9) 100) = true := by decide +kernel
theorem am_q54 : mck am_O amXX amGG am_R54 149 (fdrop (tables_1_9) 149) = true := by decide +kernel
theorem am_rq : rqOk am_O amXX amGG am_R := by
  intro row hrow
  rcases List.mem_cons.mp hrow with e | hrow
  · rw [e]; exact mck_s am_q0 (fun w h => am_ch0 w (List.mem_of_mem_drop (by rw [fdrop_eq] at h; exact h)))
  rcases List.mem_cons.mp hrow with e | hrow
  · rw [e]; exact mck_s am_q1 (fun w h => am_ch0 w (List.mem_of_mem_drop (by rw [fdrop_eq] at h; exact h)))
  rcases List.mem_cons.mp hrow with e | hrow
  · rw [e]; exact mck_s am_q2 (fun w h => am_ch0 w (List.mem_of_mem_drop (by rw [fdrop_eq] at h; exact h)))
  rcases List.mem_cons.mp hrow with e | hrow
  · rw [e]; exact mck_s am_q3 (fun w h => am_ch0 w (List.mem_of_mem_drop (by rw [fdrop_eq] at h; exact h)))
  rcases List.mem_cons.mp hrow with e | hrow
  · rw [e]; exact mck_s am_q4 (fun w h => am_ch1 w (List.mem_of_mem_drop (by rw [fdrop_eq] at h; exact h)))
  rcases List.mem_cons.mp hrow with e | hrow
  · rw [e]; exact mck_s am_q5 (fun w h => am_ch1 w (List.mem_of_mem_drop (by rw [fdrop_eq] at h; exact h)))
  rcases List.mem_cons.mp hrow with e | hrow
  · rw [e]; exact mck_s am_q6 (fun w h => am_ch1 w (List.mem_of_mem_drop (by rw [fdrop_eq] at h; exact h)))
  rcases List.mem_cons.mp hrow with e | hrow
  · rw [e]; exact mck_s am_q7 (fun w h => am_ch1 w (List.mem_of_mem_drop (by rw [fdrop_eq] at h; exact h)))
  rcases List.mem_cons.mp hrow with e | hrow
  · rw [e]; exact mck_s am_q8 (fun w h => am_ch1 w (List.mem_of_mem_drop (by rw [fdrop_eq] at h; exact h)))
  rcases List.mem_cons.mp hrow with e | hrow
  · rw [e]; exact mck_s am_q9 (fun w h => am_ch1 w (List.mem_of_mem_drop (by rw [fdrop_eq] at h; exact h)))
  rcases List.mem_cons.mp hrow with e | hrow
  · rw [e]; exact mck_s am_q10 (fun w h => am_ch1 w (List.mem_of_mem_drop (by rw [fdrop_eq] at h; exact h)))
  rcases List.mem_cons.mp hrow with e | hrow
  · rw [e]; exact mck_s am_q11 (fun w h => am_ch1 w (List.mem_of_mem_drop (by rw [fdrop_eq] at h; exact h)))
  rcases List.mem_cons.mp hrow with e | hrow
  · rw [e]; exact mck_s am_q12 (fun w h => am_ch1 w (List.mem_of_mem_drop (by rw [fdrop_eq] at h; exact h)))
  rcases List.mem_cons.mp hrow with e | hrow
  · rw [e]; exact mck_s am_q13 (fun w h => am_ch1 w (List.mem_of_mem_drop (by rw [fdrop_eq] at h; exact h)))
  rcases List.mem_cons.mp hrow with e | hrow
  · rw [e]; exact mck_s am_q14 (fun w h => am_ch1 w (List.mem_of_mem_drop (by rw [fdrop_eq] at h; exact h)))
  rcases List.mem_cons.mp hrow with e | hrow
  · rw [e]; exact mck_s am_q15 (fun w h => am_ch1 w (List.mem_of_mem_drop (by rw [fdrop_eq] at h; exact h)))
  rcases List.mem_cons.mp hrow with e | hrow
  · rw [e]; exact mck_s am_q16 (fun w h => am_ch1 w (List.mem_of_mem_drop (by rw [fdrop_eq] at h; exact h)))
  rcases List.mem_cons.mp hrow with e | hrow
  · rw [e]; exact mck_s am_q17 (fun w h => am_ch1 w (List.mem_of_mem_drop (by rw [fdrop_eq] at h; exact h)))
  rcases List.mem_cons.mp hrow with e | hrow
  · rw [e]; exact mck_s am_q18 (fun w h => am_ch2 w (List.mem_of_mem_drop (by rw [fdrop_eq] at h; exact h)))
  rcases List.mem_cons.mp hrow with e | hrow
  · rw [e]; exact mck_s am_q19 (fun w h => am_ch2 w (List.mem_of_mem_drop (by rw [fdrop_eq] at h; exact h)))
  rcases List.mem_cons.mp hrow with e | hrow
  · rw [e]; exact mck_s am_q20 (fun w h => am_ch2 w (List.mem_of_mem_drop (by rw [fdrop_eq] at h; exact h)))
  rcases List.mem_cons.mp hrow with e | hrow
  · rw [e]; exact mck_s am_q21 (fun w h => am_ch2 w (List.mem_of_mem_drop (by rw [fdrop_eq] at h; exact h)))
  rcases List.mem_cons.mp hrow with e | hrow
  · rw [e]; exact mck_s am_q22 (fun w h => am_ch3 w (List.mem_of_mem_drop (by rw [fdrop_eq] at h; exact h)))
  rcases List.mem_cons.mp hrow with e | hrow
  · rw [e]; exact mck_s am_q23 (fun w h => am_ch3 w (List.mem_of_mem_drop (by rw [fdrop_eq] at h; exact h)))
  rcases List.mem_cons.mp hrow with e | hrow
  · rw [e]; exact mck_s am_q24 (fun w h => am_ch3 w (List.mem_of_mem_drop (by rw [fdrop_eq] at h; exact h)))
  rcases List.mem_cons.mp hrow with e | hrow
  · rw [e]; exact mck_s am_q25 (fun w h => am_ch3 w (List.mem_of_mem_drop (by rw [fdrop_eq] at h; exact h)))
  rcases List.mem_cons.mp hrow with e | hrow
  · rw [e]; exact mck_s am_q26 (fun w h => am_ch3 w (List.mem_of_mem_drop (by rw [fdrop_eq] at h; exact h)))
  rcases List.mem_cons.mp hrow with e | hrow
  · rw [e]; exact mck_s am_q27 (fun w h => am_ch3 w (List.mem_of_mem_drop (by rw [fdrop_eq] at h; exact h)))
  rcases List.mem_cons.mp hrow with e | hrow
  · rw [e]; exact mck_s am_q28 (fun w h => am_ch4 w (List.mem_of_mem_drop (by rw [fdrop_eq] at h; exact h)))
  rcases List.mem_cons.mp hrow with e | hrow
  · rw [e]; exact mck_s am_q29 (fun w h => am_ch4 w (List.mem_of_mem_drop (by rw [fdrop_eq] at h; exact h)))
  rcases List.mem_cons.mp hrow with e | hrow
  · rw [e]; exact mck_s am_q30 (fun w h => am_ch4 w (List.mem_of_mem_drop (by rw [fdrop_eq] at h; exact h)))
  rcases List.mem_cons.mp hrow with e | hrow
  · rw [e]; exact mck_s am_q31 (fun w h => am_ch4 w (List.mem_of_mem_drop (by rw [fdrop_eq] at h; exact h)))
  rcases List.mem_cons.mp hrow with e | hrow
  · rw [e]; exact mck_s am_q32 (fun w h => am_ch5 w (List.mem_of_mem_drop (by rw [fdrop_eq] at h; exact h)))
  rcases List.mem_cons.mp hrow with e | hrow
  · rw [e]; exact mck_s am_q33 (fun w h => am_ch5 w (List.mem_of_mem_drop (by rw [fdrop_eq] at h; exact h)))
  rcases List.mem_cons.mp hrow with e | hrow
  · rw [e]; exact mck_s am_q34 (fun w h => am_ch5 w (List.mem_of_mem_drop (by rw [fdrop_eq] at h; exact h)))
  rcases List.mem_cons.mp hrow with e | hrow
  · rw [e]; exact mck_s am_q35 (fun w h => am_ch5 w (List.mem_of_mem_drop (by rw [fdrop_eq] at h; exact h)))
  rcases List.mem_cons.mp hrow with e | hrow
  · rw [e]; exact mck_s am_q36 (fun w h => am_ch5 w (List.mem_of_mem_drop (by rw [fdrop_eq] at h; exact h)))
  rcases List.mem_cons.mp hrow with e | hrow
  · rw [e]; exact mck_s am_q37 (fun w h => am_ch6 w (List.mem_of_mem_drop (by rw [fdrop_eq] at h; exact h)))
  rcases List.mem_cons.mp hrow with e | hrow
  · rw [e]; exact mck_s am_q38 (fun w h => am_ch6 w (List.mem_of_mem_drop (by rw [fdrop_eq] at h; exact h)))
  rcases List.mem_cons.mp hrow with e | hrow
  · rw [e]; exact mck_s am_q39 (fun w h => am_ch6 w (List.mem_of_mem_drop (by rw [fdrop_eq] at h; exact h)))
  rcases List.mem_cons.mp hrow with e | hrow
  · rw [e]; exact mck_s am_q40 (fun w h => am_ch6 w (List.mem_of_mem_drop (by rw [fdrop_eq] at h; exact h)))
  rcases List.mem_cons.mp hrow with e | hrow
  · rw [e]; exact mck_s am_q41 (fun w h => am_ch6 w (List.mem_of_mem_drop (by rw [fdrop_eq] at h; exact h)))
  rcases List.mem_cons.mp hrow with e | hrow
  · rw [e]; exact mck_s am_q42 (fun w h => am_ch6 w (List.mem_of_mem_drop (by rw [fdrop_eq] at h; exact h)))
  rcases List.mem_cons.mp hrow with e | hrow
  · rw [e]; exact mck_s am_q43 (fun w h => am_ch7 w (List.mem_of_mem_drop (by rw [fdrop_eq] at h; exact h)))
  rcases List.mem_cons.mp hrow with e | hrow
  · rw [e]; exact mck_s am_q44 (fun w h => am_ch7 w (List.mem_of_mem_drop (by rw [fdrop_eq] at h; exact h)))
  rcases List.mem_cons.mp hrow with e | hrow
  · rw [e]; exact mck_s am_q45 (fun w h => am_ch7 w (List.mem_of_mem_drop (by rw [fdrop_eq] at h; exact h)))
  rcases List.mem_cons.mp hrow with e | hrow
  · rw [e]; exact mck_s am_q46 (fun w h => am_ch8 w (List.mem_of_mem_drop (by rw [fdrop_eq] at h; exact h)))
  rcases List.mem_cons.mp hrow with e | hrow
  · rw [e]; exact mck_s am_q47 (fun w h => am_ch8 w (List.mem_of_mem_drop (by rw [fdrop_eq] at h; exact h)))
  rcases List.mem_cons.mp hrow with e | hrow
  · rw [e]; exact mck_s am_q48 (fun w h => am_ch8 w (List.mem_of_mem_drop (by rw [fdrop_eq] at h; exact h)))
  rcases List.mem_cons.mp hrow with e | hrow
  · rw [e]; exact mck_s am_q49 (fun w h => am_ch8 w (List.mem_of_mem_drop (by rw [fdrop_eq] at h; exact h)))
  rcases List.mem_cons.mp hrow with e | hrow
  · rw [e]; exact mck_s am_q50 (fun w h => am_ch8 w (List.mem_of_mem_drop (by rw [fdrop_eq] at h; exact h)))
  rcases List.mem_cons.mp hrow with e | hrow
  · rw [e]; exact mck_s am_q51 (fun w h => am_ch9 w (List.mem_of_mem_drop (by rw [fdrop_eq] at h; exact h)))
  rcases List.mem_cons.mp hrow with e | hrow
  · rw [e]; exact mck_s am_q52 (fun w h => am_ch9 w (List.mem_of_mem_drop (by rw [fdrop_eq] at h; exact h)))
  rcases List.mem_cons.mp hrow with e | hrow
  · rw [e]; exact mck_s am_q53 (fun w h => am_ch9 w (List.mem_of_mem_drop (by rw [fdrop_eq] at h; exact h)))
  rcases List.mem_cons.mp hrow with e | hrow
  · rw [e]; exact mck_s am_q54 (fun w h => am_ch9 w (List.mem_of_mem_drop (by rw [fdrop_eq] at h; exact h)))
  cases hrow
