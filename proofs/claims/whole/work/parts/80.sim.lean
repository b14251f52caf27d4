theorem sim_all : ∀ n : Nat, 1 ≤ n → n ≤ 12 → ∃ (k : Nat) (Rel : SS → SS → Prop), Sim n k Rel ∧ Rel (gs_z0 n) (rm_z0 (nI n)) := by
  sorry
