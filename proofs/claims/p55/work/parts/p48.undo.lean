theorem cpR_g {σ : gM} {ja jb s n q : Nat} (h : q < n) : cpR σ ja s jb 0 n jb q = σ ja (s + q) := by
  unfold cpR
  rw [rset_eq, if_pos (by omega)]
  exact congrArg (σ ja) (by omega)
