/-! ===== words: what is known of them ===== -/
def sC (A : Nat → Prop) (U : State) (H : Heap) : Prop := va_Z "java/lang/String" "COMPACT_STRINGS" "Z" (.int 1) A U H ∧ va_Zq "jdk/internal/util/Preconditions" "SIOOBE_FORMATTER" "Ljava/util/function/BiFunction;" A U H
def sB (q t : Nat) (bs : List Int32) (A : Nat → Prop) (U : State) (H : Heap) : Prop := va_O "java/lang/String" q A U H ∧ va_OF "java/lang/String" "coder" "B" (.int 0) q A U H ∧ va_OF "java/lang/String" "value" "[B" (.ref t) q A U H ∧ va_T .byte t bs.length (fun j => .int (bs.getD j 0)) A U H
def sW (q t : Nat) (bs : List Int32) (A : Nat → Prop) (U : State) (H : Heap) : Prop := sC A U H ∧ sB q t bs A U H
theorem sC.moved {A : Nat → Prop} {u U : State} {H : Heap} (hvm : u.vm.Alike U.vm) (h : sC A u H) : sC A U H := ⟨va_Z.moved hvm h.1, va_Zq.moved hvm h.2⟩
theorem sB.moved {q t : Nat} {bs : List Int32} {A : Nat → Prop} {u U : State} {H : Heap} (hvm : u.vm.Alike U.vm) (h : sB q t bs A u H) : sB q t bs A U H := ⟨va_O.moved hvm h.1, va_OF.moved hvm h.2.1, va_OF.moved hvm h.2.2.1, va_T.moved hvm h.2.2.2⟩
theorem sC.kept {A : Nat → Prop} {U : State} {H H1 : Heap} (h : sC A U H) (hq : ∀ a : Nat, a < H.size → ¬ A a → H1[a]? = H[a]?) : sC A U H1 := ⟨h.1.kept hq, h.2.kept hq⟩
theorem sB.kept {q t : Nat} {bs : List Int32} {A : Nat → Prop} {U : State} {H H1 : Heap} (h : sB q t bs A U H) (hq : ∀ a : Nat, a < H.size → ¬ A a → H1[a]? = H[a]?) : sB q t bs A U H1 := ⟨h.1.kept hq, h.2.1.kept hq, h.2.2.1.kept hq, h.2.2.2.kept hq⟩
theorem sC.narrow {A B : Nat → Prop} {U : State} {H : Heap} (h : sC A U H) (hAB : ∀ q, B q → A q) : sC B U H := ⟨h.1.narrow hAB, h.2.narrow hAB⟩
theorem sB.narrow {q t : Nat} {bs : List Int32} {A B : Nat → Prop} {U : State} {H : Heap} (h : sB q t bs A U H) (hAB : ∀ q, B q → A q) : sB q t bs B U H := ⟨h.1.narrow hAB, h.2.1.narrow hAB, h.2.2.1.narrow hAB, h.2.2.2.narrow hAB⟩
