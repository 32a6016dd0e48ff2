theorem roadsN_congr {a b : Nat → Nat} (h : ∀ j, j < 36 → a j = b j) : roadsN a = roadsN b :=
  sm_congr (fun i hi => sm_congr (fun j hj => by rw [h (6 * i + j) (by omega)]))
theorem loadN_congr {a b : Nat → Nat} (h36 : a 36 = b 36) (h : ∀ p, p < b 36 → a (76 + p) = b (76 + p) ∧ a (88 + p) = b (88 + p) ∧ a (40 + p) = b (40 + p)) (w : Nat) : loadN a w = loadN b w := by
  unfold loadN
  rw [h36]
  exact sm_congr (fun p hp => by rw [(h p hp).1, (h p hp).2.1, (h p hp).2.2])
