/-- THE PURE PART (no machine): to be proved; all else stands -/
theorem pure_all : ∃ (F : Nat) (G : Mm → Nat → Nat → Option Nat → Prop), (∀ m P D T, G m P D T → isPl P ∧ isPl D) ∧ INI F G ∧ OPS F G := sorry
