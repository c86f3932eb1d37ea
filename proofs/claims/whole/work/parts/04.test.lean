
theorem tt_1 (n : Nat) (p : Int32) (σ : ra_S) : ra_rn (n + 15) (none, 99999, ra_m130) 0 [some (.ref 0), some (.int p)] [] σ = if p < 0 then some (.inl (some (.int 0)), σ) else if p < σ.1 16 0 then (if p < 8 then some (.inl (some (.int 1)), σ) else some (.inl (some (.int 0)), σ)) else some (.inl (some (.int 0)), σ) := rfl
