/-- what an instruction is linked to, by the words -/
def amLk (Ts : List Jvm.Cond) (own : String) (ini : Bool) (pc : Nat) (i : Instr) (a b : Nat) : Prop :=
  match i with
  | .ldc k => (b = 0 → Jvm.Cond.constant own k (Int32.ofNat a) ∈ Ts) ∧ (b ≠ 0 → ∃ tx, amStr[a]? = some (own, k, tx))
  | .ldc_w k => (b = 0 → Jvm.Cond.constant own k (Int32.ofNat a) ∈ Ts) ∧ (b ≠ 0 → ∃ tx, amStr[a]? = some (own, k, tx))
  | .ldc2_w k => Jvm.Cond.constantLong own k (Int64.ofNat a) ∈ Ts
  | .goto o => (pc : Int) + o = (a : Int)
  | .ifCond _ o => (pc : Int) + o = (a : Int)
  | .if_icmp _ o => (pc : Int) + o = (a : Int)
  | .ifnull o => (pc : Int) + o = (a : Int)
  | .ifnonnull o => (pc : Int) + o = (a : Int)
  | .getfield k => ∃ r, vwCl[a]? = some r ∧ b < r.2.2 ∧ Jvm.Cond.fieldLink own k (r.2.1 b).1 (r.2.1 b).2.1 (r.2.1 b).2.2.1 ∈ Ts
  | .putfield k => ∃ r, vwCl[a]? = some r ∧ b < r.2.2 ∧ Jvm.Cond.fieldLink own k (r.2.1 b).1 (r.2.1 b).2.1 (r.2.1 b).2.2.1 ∈ Ts ∧ ((r.2.1 b).2.2.2 = true → ini = true ∧ (r.2.1 b).1 = own)
  | _ => True
