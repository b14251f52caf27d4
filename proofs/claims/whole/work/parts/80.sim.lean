theorem ixf_at : ∀ {N j : Nat}, j < N → ixf N j = -1 := by
  intro N
  induction N with
  | zero => intro j h; omega
  | succ N ih =>
    intro j h
    show upd (ixf N) N (-1) j = -1
    by_cases hj : j = N
    · subst hj; exact pk_us
    · rw [pk_un hj]; exact ih (by omega)
theorem Rel_0 {n : Nat} (h1 : 1 ≤ n) (hn : n ≤ 12) : RelN n (gs_z0 n) (rm_z0 (nI n)) := by
  have hk : ∀ j, j < n * 12 → (gs_z0 n).2 12 j = -1 := fun j hj => by
    show ixf (n * 12) j = -1
    exact ixf_at hj
  have h0 : ∀ x, x ≠ 12 → (gs_z0 n).2 x = fun _ => 0 := fun x hx => by
    show (if x = 12 then ixf (n * 12) else fun _ => 0) = _
    rw [if_neg hx]
  have hz : ∀ x, x ≠ 20 → x ≠ 25 → (gs_z0 n).1 x = 0 := fun x x1 x2 => by
    show (if x = 20 then nI n else if x = 25 then -1 else 0) = _
    rw [if_neg x1, if_neg x2]
  refine ⟨fun _ => 0, fun _ => [], ?_, ?_, Or.inl ⟨rfl, ⟨fun s hs => rfl, fun s hs _ => rfl, ?_, ?_⟩, Or.inl rfl⟩⟩
  · refine ⟨rfl, fun i hi => ⟨0, by omega, rfl⟩, fun s hs => ⟨rfl, Nat.zero_le _⟩, ⟨0, rfl, Nat.zero_le _, fun i hi => by omega⟩, ⟨0, by omega, rfl⟩, fun i hi => ⟨0, by omega, rfl⟩, ?_, Or.inl rfl, fun i hi => Or.inl rfl, fun i hi => ?_, Or.inl rfl⟩
    · rw [hz 8 (by omega) (by omega)]; decide
    · rw [h0 17 (by omega)]; show ¬ (0 : Int32) < 0; decide
  · exact ⟨rfl, rfl, rfl, rfl, rfl, rfl, rfl, rfl, rfl, rfl, rfl, rfl, rfl, rfl, rfl⟩
  · intro s hs
    have hL : Lf ((gs_z0 n).2 7) (fun _ => []) s = [] := gl_nil
    rw [hL]
    exact ⟨rfl, by simp, fun i hi => ⟨(fun a ha => by simp at ha), fun _ => hk _ (by omega)⟩⟩
  · intro s hs a ha
    have hL : Lf ((gs_z0 n).2 7) (fun _ => []) s = [] := gl_nil
    rw [hL] at ha
    cases ha
theorem sim_all : ∀ n : Nat, 1 ≤ n → n ≤ 12 → ∃ (k : Nat) (Rel : SS → SS → Prop), Sim n k Rel ∧ Rel (gs_z0 n) (rm_z0 (nI n)) := by
  intro n h1 hn
  have hk : 3000 ≤ 5000 := by omega
  exact ⟨5000, RelN n, ⟨si_feed hn hk, si_put hn hk, si_drop hn hk, si_length hn hk, si_find hn hk, si_snapshot hn hk, si_release hn hk, si_sync hn hk, si_crash hn hk, si_clean hn hk, si_reopen hn hk, si_badAt hn hk, si_poke h1 hn hk, si_byteAt h1 hn hk, si_living h1 hn hk, si_used h1 hn hk, si_count h1 hn hk⟩, Rel_0 h1 hn⟩
