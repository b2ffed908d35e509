/-! ===== the law's cases (h) ===== -/
theorem cs14 {sc : List Int32} {b : Nat} {i : Int32} {hp : amH} (i0 : 0 ≤ i.toInt) (i1 : i.toInt + 6 ≤ (sc.length : Int)) (hL : sc.length ≤ 100000) (hI : lawI hp) (hN : ∀ hp1, lawI hp1 → lV sc b 2256 i hp1) : lV sc (b + 1) 778 i hp := by
  refine cald 779 (lI1 101 rfl) rfl rfl ?_
  refine cald 780 (lI1 102 rfl) rfl rfl ?_
  refine cild2 782 (lI1 103 rfl) rfl rfl ?_
  refine ccst 783 (1) (lI1 104 rfl) rfl (by decide) (fun z782 h782 => ?_)
  refine cadd 784 _ (lI1 105 rfl) rfl rfl (by omega) (by omega) (fun z783 h783 => ?_)
  refine cscl 785 (lI1 106 rfl) rfl (by omega) (by omega) (fun w784 => ?_)
  refine cald 786 (lI1 107 rfl) rfl rfl ?_
  refine ccall (kd := 1) (t := 0) [.ref 0, .int _, .ref 83] [] hI.1 (lI1 108 rfl) (Or.inr ⟨_, rfl, rfl, by decide⟩) rfl rfl rfl ⟨rfl, rfl, rfl⟩ rfl rfl rfl (h356 (d := 579) hI (fun r786 hp786 mc ms hI786 hmc hms => Or.inl ⟨_, rfl, ?_⟩))
  refine cistU 791 (lI1 109 rfl) rfl rfl rfl ?_
  refine cald 792 (lI1 110 rfl) rfl rfl ?_
  refine cald 793 (lI1 111 rfl) rfl rfl ?_
  refine cild2 795 (lI1 112 rfl) rfl rfl ?_
  refine ccst 796 (1) (lI1 113 rfl) rfl (by decide) (fun z795 h795 => ?_)
  refine cadd 797 _ (lI1 114 rfl) rfl rfl (by omega) (by omega) (fun z796 h796 => ?_)
  refine cscl 798 (lI1 115 rfl) rfl (by omega) (by omega) (fun w797 => ?_)
  refine ccall (kd := 0) (t := 0) [.ref 66, .int _] [] hI786.1 (lI1 116 rfl) (Or.inl ⟨_, rfl, rfl, by decide, by decide⟩) rfl rfl rfl ⟨rfl, rfl, rfl⟩ rfl (recv66 hI786.1 _) rfl (qI p273_s rfl hI786 ⟨a66r, ai _, trivial⟩ rfl rfl rfl rfl (fun r798 hp798 hI798 => Or.inl ⟨_, rfl, ?_⟩) (fun E _ _ hE => by cases hE))
  refine cistU 803 (lI1 117 rfl) rfl rfl rfl ?_
  refine cgoto (lI1 118 rfl) ?_
  exact cmono (hN hp798 hI798) (fun y hp9 m9 s9 h9 => ⟨h9.1, by have := h9.2.1; omega, by have := h9.2.2; omega⟩)
theorem cs15 {sc : List Int32} {b : Nat} {i : Int32} {hp : amH} (i0 : 0 ≤ i.toInt) (i1 : i.toInt + 6 ≤ (sc.length : Int)) (hL : sc.length ≤ 100000) (hI : lawI hp) (hN : ∀ hp1, lawI hp1 → lV sc b 2256 i hp1) : lV sc (b + 1) 806 i hp := by
  refine cald 807 (lI1 119 rfl) rfl rfl ?_
  refine cald 808 (lI1 120 rfl) rfl rfl ?_
  refine cild2 810 (lI1 121 rfl) rfl rfl ?_
  refine ccst 811 (1) (lI1 122 rfl) rfl (by decide) (fun z810 h810 => ?_)
  refine cadd 812 _ (lI1 123 rfl) rfl rfl (by omega) (by omega) (fun z811 h811 => ?_)
  refine cscl 813 (lI1 124 rfl) rfl (by omega) (by omega) (fun w812 => ?_)
  refine cald 814 (lI1 125 rfl) rfl rfl ?_
  refine cild2 816 (lI1 126 rfl) rfl rfl ?_
  refine ccst 817 (2) (lI1 127 rfl) rfl (by decide) (fun z816 h816 => ?_)
  refine cadd 818 _ (lI1 128 rfl) rfl rfl (by omega) (by omega) (fun z817 h817 => ?_)
  refine cscl 819 (lI1 129 rfl) rfl (by omega) (by omega) (fun w818 => ?_)
  refine cald 820 (lI1 130 rfl) rfl rfl ?_
  refine cild2 822 (lI1 131 rfl) rfl rfl ?_
  refine ccst 823 (3) (lI1 132 rfl) rfl (by decide) (fun z822 h822 => ?_)
  refine cadd 824 _ (lI1 133 rfl) rfl rfl (by omega) (by omega) (fun z823 h823 => ?_)
  refine cscl 825 (lI1 134 rfl) rfl (by omega) (by omega) (fun w824 => ?_)
  refine cald 826 (lI1 135 rfl) rfl rfl ?_
  refine ccall (kd := 1) (t := 0) [.ref 0, .int _, .int _, .int _, .ref 83] [] hI.1 (lI1 136 rfl) (Or.inr ⟨_, rfl, rfl, by decide⟩) rfl rfl rfl ⟨rfl, rfl, rfl⟩ rfl rfl rfl (h357 (d := 579) hI (fun r826 hp826 mc ms hI826 hmc hms => Or.inl ⟨_, rfl, ?_⟩))
  refine cistU 831 (lI1 137 rfl) rfl rfl rfl ?_
  refine cald 832 (lI1 138 rfl) rfl rfl ?_
  refine cald 833 (lI1 139 rfl) rfl rfl ?_
  refine cild2 835 (lI1 140 rfl) rfl rfl ?_
  refine ccst 836 (1) (lI1 141 rfl) rfl (by decide) (fun z835 h835 => ?_)
  refine cadd 837 _ (lI1 142 rfl) rfl rfl (by omega) (by omega) (fun z836 h836 => ?_)
  refine cscl 838 (lI1 143 rfl) rfl (by omega) (by omega) (fun w837 => ?_)
  refine cald 839 (lI1 144 rfl) rfl rfl ?_
  refine cild2 841 (lI1 145 rfl) rfl rfl ?_
  refine ccst 842 (2) (lI1 146 rfl) rfl (by decide) (fun z841 h841 => ?_)
  refine cadd 843 _ (lI1 147 rfl) rfl rfl (by omega) (by omega) (fun z842 h842 => ?_)
  refine cscl 844 (lI1 148 rfl) rfl (by omega) (by omega) (fun w843 => ?_)
  refine cald 845 (lI1 149 rfl) rfl rfl ?_
  refine cild2 847 (lI1 150 rfl) rfl rfl ?_
  refine ccst 848 (3) (lI1 151 rfl) rfl (by decide) (fun z847 h847 => ?_)
  refine cadd 849 _ (lI1 152 rfl) rfl rfl (by omega) (by omega) (fun z848 h848 => ?_)
  refine cscl 850 (lI1 153 rfl) rfl (by omega) (by omega) (fun w849 => ?_)
  refine ccall (kd := 0) (t := 0) [.ref 66, .int _, .int _, .int _] [] hI826.1 (lI1 154 rfl) (Or.inl ⟨_, rfl, rfl, by decide, by decide⟩) rfl rfl rfl ⟨rfl, rfl, rfl⟩ rfl (recv66 hI826.1 _) rfl (qI p274_s rfl hI826 ⟨a66r, ai _, ai _, ai _, trivial⟩ rfl rfl rfl rfl (fun r850 hp850 hI850 => Or.inl ⟨_, rfl, ?_⟩) (fun E _ _ hE => by cases hE))
  refine cistU 855 (lI1 155 rfl) rfl rfl rfl ?_
  refine cgoto (lI1 156 rfl) ?_
  exact cmono (hN hp850 hI850) (fun y hp9 m9 s9 h9 => ⟨h9.1, by have := h9.2.1; omega, by have := h9.2.2; omega⟩)
theorem cs16 {sc : List Int32} {b : Nat} {i : Int32} {hp : amH} (i0 : 0 ≤ i.toInt) (i1 : i.toInt + 6 ≤ (sc.length : Int)) (hL : sc.length ≤ 100000) (hI : lawI hp) (hN : ∀ hp1, lawI hp1 → lV sc b 2256 i hp1) : lV sc (b + 1) 858 i hp := by
  refine cald 859 (lI1 157 rfl) rfl rfl ?_
  refine ccall (kd := 0) (t := 0) [.ref 0] [] hI.1 (lI1 158 rfl) (Or.inl ⟨_, rfl, rfl, by decide, by decide⟩) rfl rfl rfl ⟨rfl, rfl, rfl⟩ rfl (recv0 hI.1 _) rfl (qI (bL8_s be_53 (List.mem_of_getElem? (i := 143) rfl)) rfl hI ⟨a0r, trivial⟩ rfl rfl rfl rfl (fun r859 hp859 hI859 => Or.inl ⟨_, rfl, ?_⟩) (fun E _ _ hE => by cases hE))
  refine cpop 863 (lI1 159 rfl) rfl rfl ?_
  refine cald 864 (lI1 160 rfl) rfl rfl ?_
  refine ccall (kd := 0) (t := 0) [.ref 66] [] hI859.1 (lI1 161 rfl) (Or.inl ⟨_, rfl, rfl, by decide, by decide⟩) rfl rfl rfl ⟨rfl, rfl, rfl⟩ rfl (recv66 hI859.1 _) rfl (qI p275_s rfl hI859 ⟨a66r, trivial⟩ rfl rfl rfl rfl (fun r864 hp864 hI864 => Or.inl ⟨_, rfl, ?_⟩) (fun E _ _ hE => by cases hE))
  refine cpop 868 (lI1 162 rfl) rfl rfl ?_
  refine cgoto (lI1 163 rfl) ?_
  exact cmono (hN hp864 hI864) (fun y hp9 m9 s9 h9 => ⟨h9.1, by have := h9.2.1; omega, by have := h9.2.2; omega⟩)
theorem cs17 {sc : List Int32} {b : Nat} {i : Int32} {hp : amH} (i0 : 0 ≤ i.toInt) (i1 : i.toInt + 6 ≤ (sc.length : Int)) (hL : sc.length ≤ 100000) (hI : lawI hp) (hN : ∀ hp1, lawI hp1 → lV sc b 2256 i hp1) : lV sc (b + 1) 871 i hp := by
  refine cald 872 (lI1 164 rfl) rfl rfl ?_
  refine ccall (kd := 0) (t := 0) [.ref 0] [] hI.1 (lI1 165 rfl) (Or.inl ⟨_, rfl, rfl, by decide, by decide⟩) rfl rfl rfl ⟨rfl, rfl, rfl⟩ rfl (recv0 hI.1 _) rfl (qI (bL8_s be_67 (List.mem_of_getElem? (i := 129) rfl)) rfl hI ⟨a0r, trivial⟩ rfl rfl rfl rfl (fun r872 hp872 hI872 => Or.inl ⟨_, rfl, ?_⟩) (fun E _ _ hE => by cases hE))
  refine cpop 876 (lI1 166 rfl) rfl rfl ?_
  refine cald 877 (lI1 167 rfl) rfl rfl ?_
  refine ccall (kd := 0) (t := 0) [.ref 66] [] hI872.1 (lI1 168 rfl) (Or.inl ⟨_, rfl, rfl, by decide, by decide⟩) rfl rfl rfl ⟨rfl, rfl, rfl⟩ rfl (recv66 hI872.1 _) rfl (qI p285_s rfl hI872 ⟨a66r, trivial⟩ rfl rfl rfl rfl (fun r877 hp877 hI877 => Or.inl ⟨_, rfl, ?_⟩) (fun E _ _ hE => by cases hE))
  refine cpop 881 (lI1 169 rfl) rfl rfl ?_
  refine cgoto (lI1 170 rfl) ?_
  exact cmono (hN hp877 hI877) (fun y hp9 m9 s9 h9 => ⟨h9.1, by have := h9.2.1; omega, by have := h9.2.2; omega⟩)
theorem cs18 {sc : List Int32} {b : Nat} {i : Int32} {hp : amH} (i0 : 0 ≤ i.toInt) (i1 : i.toInt + 6 ≤ (sc.length : Int)) (hL : sc.length ≤ 100000) (hI : lawI hp) (hN : ∀ hp1, lawI hp1 → lV sc b 2256 i hp1) : lV sc (b + 1) 884 i hp := by
  refine cald 885 (lI1 171 rfl) rfl rfl ?_
  refine ccall (kd := 0) (t := 0) [.ref 0] [] hI.1 (lI1 172 rfl) (Or.inl ⟨_, rfl, rfl, by decide, by decide⟩) rfl rfl rfl ⟨rfl, rfl, rfl⟩ rfl (recv0 hI.1 _) rfl (qI (bL8_s be_69 (List.mem_of_getElem? (i := 127) rfl)) rfl hI ⟨a0r, trivial⟩ rfl rfl rfl rfl (fun r885 hp885 hI885 => Or.inl ⟨_, rfl, ?_⟩) (fun E _ _ hE => by cases hE))
  refine cpop 889 (lI1 173 rfl) rfl rfl ?_
  refine cald 890 (lI1 174 rfl) rfl rfl ?_
  refine ccall (kd := 0) (t := 0) [.ref 66] [] hI885.1 (lI1 175 rfl) (Or.inl ⟨_, rfl, rfl, by decide, by decide⟩) rfl rfl rfl ⟨rfl, rfl, rfl⟩ rfl (recv66 hI885.1 _) rfl (qI (bQ6_s bf_25 (List.mem_of_getElem? (i := 108) rfl)) rfl hI885 ⟨a66r, trivial⟩ rfl rfl rfl rfl (fun r890 hp890 hI890 => Or.inl ⟨_, rfl, ?_⟩) (fun E _ _ hE => by cases hE))
  refine cpop 894 (lI1 176 rfl) rfl rfl ?_
  refine cgoto (lI1 177 rfl) ?_
  exact cmono (hN hp890 hI890) (fun y hp9 m9 s9 h9 => ⟨h9.1, by have := h9.2.1; omega, by have := h9.2.2; omega⟩)
theorem cs19 {sc : List Int32} {b : Nat} {i : Int32} {hp : amH} (i0 : 0 ≤ i.toInt) (i1 : i.toInt + 6 ≤ (sc.length : Int)) (hL : sc.length ≤ 100000) (hI : lawI hp) (hN : ∀ hp1, lawI hp1 → lV sc b 2256 i hp1) : lV sc (b + 1) 897 i hp := by
  refine cald 898 (lI1 178 rfl) rfl rfl ?_
  refine cald 899 (lI1 179 rfl) rfl rfl ?_
  refine cild2 901 (lI1 180 rfl) rfl rfl ?_
  refine ccst 902 (1) (lI1 181 rfl) rfl (by decide) (fun z901 h901 => ?_)
  refine cadd 903 _ (lI1 182 rfl) rfl rfl (by omega) (by omega) (fun z902 h902 => ?_)
  refine cscl 904 (lI1 183 rfl) rfl (by omega) (by omega) (fun w903 => ?_)
  refine cald 905 (lI1 184 rfl) rfl rfl ?_
  refine cild2 907 (lI1 185 rfl) rfl rfl ?_
  refine ccst 908 (2) (lI1 186 rfl) rfl (by decide) (fun z907 h907 => ?_)
  refine cadd 909 _ (lI1 187 rfl) rfl rfl (by omega) (by omega) (fun z908 h908 => ?_)
  refine cscl 910 (lI1 188 rfl) rfl (by omega) (by omega) (fun w909 => ?_)
  refine cald 911 (lI1 189 rfl) rfl rfl ?_
  refine ccall (kd := 1) (t := 0) [.ref 0, .int _, .int _, .ref 83] [] hI.1 (lI1 190 rfl) (Or.inr ⟨_, rfl, rfl, by decide⟩) rfl rfl rfl ⟨rfl, rfl, rfl⟩ rfl rfl rfl (h358 (d := 579) hI (fun r911 hp911 mc ms hI911 hmc hms => Or.inl ⟨_, rfl, ?_⟩))
  refine cistU 916 (lI1 191 rfl) rfl rfl rfl ?_
  refine cald 917 (lI1 192 rfl) rfl rfl ?_
  refine cald 918 (lI1 193 rfl) rfl rfl ?_
  refine cild2 920 (lI1 194 rfl) rfl rfl ?_
  refine ccst 921 (1) (lI1 195 rfl) rfl (by decide) (fun z920 h920 => ?_)
  refine cadd 922 _ (lI1 196 rfl) rfl rfl (by omega) (by omega) (fun z921 h921 => ?_)
  refine cscl 923 (lI1 197 rfl) rfl (by omega) (by omega) (fun w922 => ?_)
  refine cald 924 (lI1 198 rfl) rfl rfl ?_
  refine cild2 926 (lI1 199 rfl) rfl rfl ?_
  refine ccst 927 (2) (lI1 200 rfl) rfl (by decide) (fun z926 h926 => ?_)
  refine cadd 928 _ (lI1 201 rfl) rfl rfl (by omega) (by omega) (fun z927 h927 => ?_)
  refine cscl 929 (lI1 202 rfl) rfl (by omega) (by omega) (fun w928 => ?_)
  refine ccall (kd := 0) (t := 0) [.ref 66, .int _, .int _] [] hI911.1 (lI1 203 rfl) (Or.inl ⟨_, rfl, rfl, by decide, by decide⟩) rfl rfl rfl ⟨rfl, rfl, rfl⟩ rfl (recv66 hI911.1 _) rfl (qI (bQ6_s bf_29 (List.mem_of_getElem? (i := 104) rfl)) rfl hI911 ⟨a66r, ai _, ai _, trivial⟩ rfl rfl rfl rfl (fun r929 hp929 hI929 => Or.inl ⟨_, rfl, ?_⟩) (fun E _ _ hE => by cases hE))
  refine cistU 934 (lI1 204 rfl) rfl rfl rfl ?_
  refine cgoto (lI1 205 rfl) ?_
  exact cmono (hN hp929 hI929) (fun y hp9 m9 s9 h9 => ⟨h9.1, by have := h9.2.1; omega, by have := h9.2.2; omega⟩)
theorem cs20 {sc : List Int32} {b : Nat} {i : Int32} {hp : amH} (i0 : 0 ≤ i.toInt) (i1 : i.toInt + 6 ≤ (sc.length : Int)) (hL : sc.length ≤ 100000) (hI : lawI hp) (hN : ∀ hp1, lawI hp1 → lV sc b 2256 i hp1) : lV sc (b + 1) 937 i hp := by
  refine cald 938 (lI1 206 rfl) rfl rfl ?_
  refine cald 939 (lI1 207 rfl) rfl rfl ?_
  refine cild2 941 (lI1 208 rfl) rfl rfl ?_
  refine ccst 942 (1) (lI1 209 rfl) rfl (by decide) (fun z941 h941 => ?_)
  refine cadd 943 _ (lI1 210 rfl) rfl rfl (by omega) (by omega) (fun z942 h942 => ?_)
  refine cscl 944 (lI1 211 rfl) rfl (by omega) (by omega) (fun w943 => ?_)
  refine cald 945 (lI1 212 rfl) rfl rfl ?_
  refine cild2 947 (lI1 213 rfl) rfl rfl ?_
  refine ccst 948 (2) (lI1 214 rfl) rfl (by decide) (fun z947 h947 => ?_)
  refine cadd 949 _ (lI1 215 rfl) rfl rfl (by omega) (by omega) (fun z948 h948 => ?_)
  refine cscl 950 (lI1 216 rfl) rfl (by omega) (by omega) (fun w949 => ?_)
  refine cald 951 (lI1 217 rfl) rfl rfl ?_
  refine ccall (kd := 1) (t := 0) [.ref 0, .int _, .int _, .ref 83] [] hI.1 (lI1 218 rfl) (Or.inr ⟨_, rfl, rfl, by decide⟩) rfl rfl rfl ⟨rfl, rfl, rfl⟩ rfl rfl rfl (h359 (d := 579) hI (fun r951 hp951 mc ms hI951 hmc hms => Or.inl ⟨_, rfl, ?_⟩))
  refine cistU 956 (lI1 219 rfl) rfl rfl rfl ?_
  refine cald 957 (lI1 220 rfl) rfl rfl ?_
  refine cald 958 (lI1 221 rfl) rfl rfl ?_
  refine cild2 960 (lI1 222 rfl) rfl rfl ?_
  refine ccst 961 (1) (lI1 223 rfl) rfl (by decide) (fun z960 h960 => ?_)
  refine cadd 962 _ (lI1 224 rfl) rfl rfl (by omega) (by omega) (fun z961 h961 => ?_)
  refine cscl 963 (lI1 225 rfl) rfl (by omega) (by omega) (fun w962 => ?_)
  refine cald 964 (lI1 226 rfl) rfl rfl ?_
  refine cild2 966 (lI1 227 rfl) rfl rfl ?_
  refine ccst 967 (2) (lI1 228 rfl) rfl (by decide) (fun z966 h966 => ?_)
  refine cadd 968 _ (lI1 229 rfl) rfl rfl (by omega) (by omega) (fun z967 h967 => ?_)
  refine cscl 969 (lI1 230 rfl) rfl (by omega) (by omega) (fun w968 => ?_)
  refine ccall (kd := 0) (t := 0) [.ref 66, .int _, .int _] [] hI951.1 (lI1 231 rfl) (Or.inl ⟨_, rfl, rfl, by decide, by decide⟩) rfl rfl rfl ⟨rfl, rfl, rfl⟩ rfl (recv66 hI951.1 _) rfl (qI (bQ6_s bf_31 (List.mem_of_getElem? (i := 102) rfl)) rfl hI951 ⟨a66r, ai _, ai _, trivial⟩ rfl rfl rfl rfl (fun r969 hp969 hI969 => Or.inl ⟨_, rfl, ?_⟩) (fun E _ _ hE => by cases hE))
  refine cistU 974 (lI1 232 rfl) rfl rfl rfl ?_
  refine cgoto (lI1 233 rfl) ?_
  exact cmono (hN hp969 hI969) (fun y hp9 m9 s9 h9 => ⟨h9.1, by have := h9.2.1; omega, by have := h9.2.2; omega⟩)
theorem cs21 {sc : List Int32} {b : Nat} {i : Int32} {hp : amH} (i0 : 0 ≤ i.toInt) (i1 : i.toInt + 6 ≤ (sc.length : Int)) (hL : sc.length ≤ 100000) (hI : lawI hp) (hN : ∀ hp1, lawI hp1 → lV sc b 2256 i hp1) : lV sc (b + 1) 977 i hp := by
  refine cald 978 (lI1 234 rfl) rfl rfl ?_
  refine cald 979 (lI1 235 rfl) rfl rfl ?_
  refine cild2 981 (lI1 236 rfl) rfl rfl ?_
  refine ccst 982 (1) (lI1 237 rfl) rfl (by decide) (fun z981 h981 => ?_)
  refine cadd 983 _ (lI1 238 rfl) rfl rfl (by omega) (by omega) (fun z982 h982 => ?_)
  refine cscl 984 (lI1 239 rfl) rfl (by omega) (by omega) (fun w983 => ?_)
  refine cald 985 (lI1 240 rfl) rfl rfl ?_
  refine ccall (kd := 1) (t := 0) [.ref 0, .int _, .ref 83] [] hI.1 (lI1 241 rfl) (Or.inr ⟨_, rfl, rfl, by decide⟩) rfl rfl rfl ⟨rfl, rfl, rfl⟩ rfl rfl rfl (h360 (d := 579) hI (fun r985 hp985 mc ms hI985 hmc hms => Or.inl ⟨_, rfl, ?_⟩))
  refine cistU 990 (lI1 242 rfl) rfl rfl rfl ?_
  refine cald 991 (lI1 243 rfl) rfl rfl ?_
  refine cald 992 (lI1 244 rfl) rfl rfl ?_
  refine cild2 994 (lI1 245 rfl) rfl rfl ?_
  refine ccst 995 (1) (lI1 246 rfl) rfl (by decide) (fun z994 h994 => ?_)
  refine cadd 996 _ (lI1 247 rfl) rfl rfl (by omega) (by omega) (fun z995 h995 => ?_)
  refine cscl 997 (lI1 248 rfl) rfl (by omega) (by omega) (fun w996 => ?_)
  refine ccall (kd := 0) (t := 0) [.ref 66, .int _] [] hI985.1 (lI1 249 rfl) (Or.inl ⟨_, rfl, rfl, by decide, by decide⟩) rfl rfl rfl ⟨rfl, rfl, rfl⟩ rfl (recv66 hI985.1 _) rfl (qI (bQ6_s bf_32 (List.mem_of_getElem? (i := 101) rfl)) rfl hI985 ⟨a66r, ai _, trivial⟩ rfl rfl rfl rfl (fun r997 hp997 hI997 => Or.inl ⟨_, rfl, ?_⟩) (fun E _ _ hE => by cases hE))
  refine cistU 1002 (lI2 0 rfl) rfl rfl rfl ?_
  refine cgoto (lI2 1 rfl) ?_
  exact cmono (hN hp997 hI997) (fun y hp9 m9 s9 h9 => ⟨h9.1, by have := h9.2.1; omega, by have := h9.2.2; omega⟩)
theorem cs22 {sc : List Int32} {b : Nat} {i : Int32} {hp : amH} (i0 : 0 ≤ i.toInt) (i1 : i.toInt + 6 ≤ (sc.length : Int)) (hL : sc.length ≤ 100000) (hI : lawI hp) (hN : ∀ hp1, lawI hp1 → lV sc b 2256 i hp1) : lV sc (b + 1) 1005 i hp := by
  refine cald 1006 (lI2 2 rfl) rfl rfl ?_
  refine cald 1007 (lI2 3 rfl) rfl rfl ?_
  refine cild2 1009 (lI2 4 rfl) rfl rfl ?_
  refine ccst 1010 (1) (lI2 5 rfl) rfl (by decide) (fun z1009 h1009 => ?_)
  refine cadd 1011 _ (lI2 6 rfl) rfl rfl (by omega) (by omega) (fun z1010 h1010 => ?_)
  refine cscl 1012 (lI2 7 rfl) rfl (by omega) (by omega) (fun w1011 => ?_)
  refine cald 1013 (lI2 8 rfl) rfl rfl ?_
  refine ccall (kd := 1) (t := 0) [.ref 0, .int _, .ref 83] [] hI.1 (lI2 9 rfl) (Or.inr ⟨_, rfl, rfl, by decide⟩) rfl rfl rfl ⟨rfl, rfl, rfl⟩ rfl rfl rfl (h361 (d := 579) hI (fun r1013 hp1013 mc ms hI1013 hmc hms => Or.inl ⟨_, rfl, ?_⟩))
  refine cistU 1018 (lI2 10 rfl) rfl rfl rfl ?_
  refine cald 1019 (lI2 11 rfl) rfl rfl ?_
  refine cald 1020 (lI2 12 rfl) rfl rfl ?_
  refine cild2 1022 (lI2 13 rfl) rfl rfl ?_
  refine ccst 1023 (1) (lI2 14 rfl) rfl (by decide) (fun z1022 h1022 => ?_)
  refine cadd 1024 _ (lI2 15 rfl) rfl rfl (by omega) (by omega) (fun z1023 h1023 => ?_)
  refine cscl 1025 (lI2 16 rfl) rfl (by omega) (by omega) (fun w1024 => ?_)
  refine ccall (kd := 0) (t := 0) [.ref 66, .int _] [] hI1013.1 (lI2 17 rfl) (Or.inl ⟨_, rfl, rfl, by decide, by decide⟩) rfl rfl rfl ⟨rfl, rfl, rfl⟩ rfl (recv66 hI1013.1 _) rfl (qI (bQ6_s bf_33 (List.mem_of_getElem? (i := 100) rfl)) rfl hI1013 ⟨a66r, ai _, trivial⟩ rfl rfl rfl rfl (fun r1025 hp1025 hI1025 => Or.inl ⟨_, rfl, ?_⟩) (fun E _ _ hE => by cases hE))
  refine cistU 1030 (lI2 18 rfl) rfl rfl rfl ?_
  refine cgoto (lI2 19 rfl) ?_
  exact cmono (hN hp1025 hI1025) (fun y hp9 m9 s9 h9 => ⟨h9.1, by have := h9.2.1; omega, by have := h9.2.2; omega⟩)
theorem cs23 {sc : List Int32} {b : Nat} {i : Int32} {hp : amH} (i0 : 0 ≤ i.toInt) (i1 : i.toInt + 6 ≤ (sc.length : Int)) (hL : sc.length ≤ 100000) (hI : lawI hp) (hN : ∀ hp1, lawI hp1 → lV sc b 2256 i hp1) : lV sc (b + 1) 1033 i hp := by
  refine cald 1034 (lI2 20 rfl) rfl rfl ?_
  refine cald 1035 (lI2 21 rfl) rfl rfl ?_
  refine cild2 1037 (lI2 22 rfl) rfl rfl ?_
  refine ccst 1038 (1) (lI2 23 rfl) rfl (by decide) (fun z1037 h1037 => ?_)
  refine cadd 1039 _ (lI2 24 rfl) rfl rfl (by omega) (by omega) (fun z1038 h1038 => ?_)
  refine cscl 1040 (lI2 25 rfl) rfl (by omega) (by omega) (fun w1039 => ?_)
  refine cald 1041 (lI2 26 rfl) rfl rfl ?_
  refine ccall (kd := 1) (t := 0) [.ref 0, .int _, .ref 83] [] hI.1 (lI2 27 rfl) (Or.inr ⟨_, rfl, rfl, by decide⟩) rfl rfl rfl ⟨rfl, rfl, rfl⟩ rfl rfl rfl (h362 (d := 579) hI (fun r1041 hp1041 mc ms hI1041 hmc hms => Or.inl ⟨_, rfl, ?_⟩))
  refine cistU 1046 (lI2 28 rfl) rfl rfl rfl ?_
  refine cald 1047 (lI2 29 rfl) rfl rfl ?_
  refine cald 1048 (lI2 30 rfl) rfl rfl ?_
  refine cild2 1050 (lI2 31 rfl) rfl rfl ?_
  refine ccst 1051 (1) (lI2 32 rfl) rfl (by decide) (fun z1050 h1050 => ?_)
  refine cadd 1052 _ (lI2 33 rfl) rfl rfl (by omega) (by omega) (fun z1051 h1051 => ?_)
  refine cscl 1053 (lI2 34 rfl) rfl (by omega) (by omega) (fun w1052 => ?_)
  refine ccall (kd := 0) (t := 0) [.ref 66, .int _] [] hI1041.1 (lI2 35 rfl) (Or.inl ⟨_, rfl, rfl, by decide, by decide⟩) rfl rfl rfl ⟨rfl, rfl, rfl⟩ rfl (recv66 hI1041.1 _) rfl (qI p292_s rfl hI1041 ⟨a66r, ai _, trivial⟩ rfl rfl rfl rfl (fun r1053 hp1053 hI1053 => Or.inl ⟨_, rfl, ?_⟩) (fun E _ _ hE => by cases hE))
  refine cistU 1058 (lI2 36 rfl) rfl rfl rfl ?_
  refine cgoto (lI2 37 rfl) ?_
  exact cmono (hN hp1053 hI1053) (fun y hp9 m9 s9 h9 => ⟨h9.1, by have := h9.2.1; omega, by have := h9.2.2; omega⟩)
theorem cs24 {sc : List Int32} {b : Nat} {i : Int32} {hp : amH} (i0 : 0 ≤ i.toInt) (i1 : i.toInt + 6 ≤ (sc.length : Int)) (hL : sc.length ≤ 100000) (hI : lawI hp) (hN : ∀ hp1, lawI hp1 → lV sc b 2256 i hp1) : lV sc (b + 1) 1061 i hp := by
  refine cald 1062 (lI2 38 rfl) rfl rfl ?_
  refine cald 1063 (lI2 39 rfl) rfl rfl ?_
  refine cild2 1065 (lI2 40 rfl) rfl rfl ?_
  refine ccst 1066 (1) (lI2 41 rfl) rfl (by decide) (fun z1065 h1065 => ?_)
  refine cadd 1067 _ (lI2 42 rfl) rfl rfl (by omega) (by omega) (fun z1066 h1066 => ?_)
  refine cscl 1068 (lI2 43 rfl) rfl (by omega) (by omega) (fun w1067 => ?_)
  refine cald 1069 (lI2 44 rfl) rfl rfl ?_
  refine ccall (kd := 1) (t := 0) [.ref 0, .int _, .ref 83] [] hI.1 (lI2 45 rfl) (Or.inr ⟨_, rfl, rfl, by decide⟩) rfl rfl rfl ⟨rfl, rfl, rfl⟩ rfl rfl rfl (h363 (d := 579) hI (fun r1069 hp1069 mc ms hI1069 hmc hms => Or.inl ⟨_, rfl, ?_⟩))
  refine cistU 1074 (lI2 46 rfl) rfl rfl rfl ?_
  refine cald 1075 (lI2 47 rfl) rfl rfl ?_
  refine cald 1076 (lI2 48 rfl) rfl rfl ?_
  refine cild2 1078 (lI2 49 rfl) rfl rfl ?_
  refine ccst 1079 (1) (lI2 50 rfl) rfl (by decide) (fun z1078 h1078 => ?_)
  refine cadd 1080 _ (lI2 51 rfl) rfl rfl (by omega) (by omega) (fun z1079 h1079 => ?_)
  refine cscl 1081 (lI2 52 rfl) rfl (by omega) (by omega) (fun w1080 => ?_)
  refine ccall (kd := 0) (t := 0) [.ref 66, .int _] [] hI1069.1 (lI2 53 rfl) (Or.inl ⟨_, rfl, rfl, by decide, by decide⟩) rfl rfl rfl ⟨rfl, rfl, rfl⟩ rfl (recv66 hI1069.1 _) rfl (qI p293_s rfl hI1069 ⟨a66r, ai _, trivial⟩ rfl rfl rfl rfl (fun r1081 hp1081 hI1081 => Or.inl ⟨_, rfl, ?_⟩) (fun E _ _ hE => by cases hE))
  refine cistU 1086 (lI2 54 rfl) rfl rfl rfl ?_
  refine cgoto (lI2 55 rfl) ?_
  exact cmono (hN hp1081 hI1081) (fun y hp9 m9 s9 h9 => ⟨h9.1, by have := h9.2.1; omega, by have := h9.2.2; omega⟩)
