/-! THE BUILDER: what its code and the law's texts need of the launch. -/
section LVB
/-- a row of bytes below what the call makes -/
abbrev z_TT (G : z_G) (a n : Nat) (f : Int → Int) : Prop := va_T .byte a n (fun j : Nat => .int (Int32.ofInt (f j))) (z_A G) G.2.1 G.2.1.heap
/-- the row of the digits' letters -/
def z_SBd (G : z_G) : Prop := ∃ (q N : Nat) (dg : Int → Int), z_ZZ G "java/lang/Integer" "DigitOnes" "[B" (.ref q) ∧ z_TT G q N dg ∧ 5 ≤ N ∧ N ≤ 1000 ∧ ∀ v, 0 ≤ v → v ≤ 4 → dg v = 48 + v
/-- a text that lies below what the call makes -/
def z_low (G : z_G) (s v n : Nat) (f : Int → Int) : Prop := va_O "java/lang/String" s (z_A G) G.2.1 G.2.1.heap ∧ va_OF "java/lang/String" "coder" "B" (z_i 0) s (z_A G) G.2.1 G.2.1.heap ∧ va_OF "java/lang/String" "value" "[B" (.ref v) s (z_A G) G.2.1 G.2.1.heap ∧ z_TT G v n f
/-- a constant text -/
def sbK (G : z_G) (tx : String) (s : Nat) : Prop := ∃ v : Nat, z_low G s v tx.length (fun i => ((tx.toList.getD i.toNat 'a').toNat : Int)) ∧ ∀ j : Nat, j < tx.length → (tx.toList.getD j 'a').toNat ≤ 127
/-- the law's constants -/
abbrev scL : List (Nat × String) := [(81, ""), (83, "; "), (92, "-"), (94, "+"), (99, " *")]
def z_SB (G : z_G) : Prop := z_SBs G ∧ z_SBd G ∧ ∀ q ∈ scL, ∃ s : Nat, vk_R "StandingsHallLaw" q.1 q.2 s G.2.1 ∧ sbK G q.2 s
end LVB
