/-! PURE PART: numbers -/
theorem nI_inj {a b : Nat} (ha : a ≤ 4096) (hb : b ≤ 4096) : (nI a = nI b) = (a = b) := by
  refine propext ⟨fun h => ?_, fun h => by rw [h]⟩
  have h2 := congrArg Int32.toInt h
  rw [g_nIt ha, g_nIt hb] at h2
  omega
theorem nI_leq {a b : Nat} (ha : a ≤ 4096) (hb : b ≤ 4096) : (nI a ≤ nI b) = (a ≤ b) := by
  rw [Int32.le_iff_toInt_le, g_nIt ha, g_nIt hb]
  exact propext (by omega)
theorem nI_ltq {a b : Nat} (ha : a ≤ 4096) (hb : b ≤ 4096) : (nI a < nI b) = (a < b) := by
  rw [Int32.lt_iff_toInt_lt, g_nIt ha, g_nIt hb]
  exact propext (by omega)
theorem nI_gi {α : Type} {i n : Nat} {A : Option α} (h : i < n) (hn : i ≤ 4096) : gi (nI i) n A = A := gi_in (g_vin hn h)
theorem nI_1' : (1 : Int32) = nI 1 := rfl
theorem nm_s {α β : Type} (v : α) (k : α → β) : nm v k = k v := rfl
/-- steps 0 .. k - 1 -/
def itr {α : Type} (step : Nat → α → α) : Nat → α → α
  | 0, a => a
  | k + 1, a => step k (itr step k a)
theorem itr_inv {α : Type} {step : Nat → α → α} {I : Nat → α → Prop} {N : Nat} {a : α} (h0 : I 0 a) (hs : ∀ i a, i < N → I i a → I (i + 1) (step i a)) : ∀ k, k ≤ N → I k (itr step k a)
  | 0, _ => h0
  | k + 1, h => hs k _ (by omega) (itr_inv h0 hs k (by omega))
theorem itr_congr {α : Type} {f g : Nat → α → α} : ∀ {N : Nat} {a : α}, (∀ i a, i < N → f i a = g i a) → itr f N a = itr g N a
  | 0, _, _ => rfl
  | N + 1, a, h => by
    show f N (itr f N a) = g N (itr g N a)
    rw [itr_congr (fun i a hi => h i a (by omega)), h N _ (by omega)]
/-- a loop that counts up to N -/
theorem loop_inv {α β : Type} {F : Nat → Int32 → α → Option β} {N : Nat} {step : Nat → α → α} {fin : α → β} {I : Nat → α → Prop} (hN : N < 4000) (a : α) (h0 : I 0 a)
    (hs : ∀ n i a, i < N → I i a → F (n + 1) (nI i) a = F n (nI (i + 1)) (step i a) ∧ I (i + 1) (step i a)) (he : ∀ n a, I N a → F (n + 1) (nI N) a = some (fin a)) : F gFU 0 a = some (fin (itr step N a)) ∧ I N (itr step N a) := by
  have hI : ∀ k, k ≤ N → I k (itr step k a) := itr_inv h0 (fun i a hi h => (hs 0 i a hi h).2)
  refine ⟨?_, hI N (Nat.le_refl _)⟩
  have key : ∀ k i n, i + k = N → k < n → F n (nI i) (itr step i a) = some (fin (itr step N a)) := by
    intro k
    induction k with
    | zero =>
      intro i n hi hn
      obtain ⟨m, rfl⟩ : ∃ m, n = m + 1 := ⟨n - 1, by omega⟩
      have hi : i = N := by omega
      subst hi
      exact he m _ (hI _ (Nat.le_refl _))
    | succ k ih =>
      intro i n hi hn
      obtain ⟨m, rfl⟩ : ∃ m, n = m + 1 := ⟨n - 1, by omega⟩
      rw [(hs m i _ (by omega) (hI i (by omega))).1]
      exact ih (i + 1) m (by omega) (by omega)
  exact key N 0 gFU (by omega) (by rw [gFU_eq]; omega)
theorem loop_up {α β : Type} {F : Nat → Int32 → α → Option β} {N : Nat} {step : Nat → α → α} {fin : α → β} (hN : N < 4000) (a : α)
    (hs : ∀ n i a, i < N → F (n + 1) (nI i) a = F n (nI (i + 1)) (step i a)) (he : ∀ n a, F (n + 1) (nI N) a = some (fin a)) : F gFU 0 a = some (fin (itr step N a)) :=
  (loop_inv (I := fun _ _ => True) hN a trivial (fun n i a hi _ => ⟨hs n i a hi, trivial⟩) (fun n a _ => he n a)).1
theorem nI_s {i : Nat} (h : i + 1 ≤ 4096) : nI i + 1 = nI (i + 1) := g_nIadd (j := 1) h
theorem nI_al {k i : Nat} (h : k + i ≤ 4096) : nI k + nI i = nI (k + i) := g_nIadd h
theorem nI_add0 (v : Int32) : v + nI 0 = v := Int32.add_zero v
def sm (f : Nat → Nat) : Nat → Nat
  | 0 => 0
  | n + 1 => sm f n + f n
theorem sm_le {f : Nat → Nat} {B : Nat} : ∀ {n : Nat}, (∀ i, i < n → f i ≤ B) → sm f n ≤ B * n
  | 0, _ => Nat.zero_le _
  | n + 1, h => by
    have h1 := sm_le (f := f) (n := n) (fun i hi => h i (by omega))
    have h2 := h n (by omega)
    show sm f n + f n ≤ B * (n + 1)
    rw [Nat.mul_add]
    omega
theorem sm_mono {f : Nat → Nat} {m : Nat} : ∀ {n : Nat}, m ≤ n → sm f m ≤ sm f n
  | 0, h => by
    have : m = 0 := by omega
    subst this
    exact Nat.le_refl _
  | n + 1, h => by
    rcases Nat.lt_or_ge m (n + 1) with q | q
    · exact Nat.le_trans (sm_mono (n := n) (by omega)) (Nat.le_add_right _ _)
    · have : m = n + 1 := by omega
      subst this
      exact Nat.le_refl _
theorem sm_congr {f g : Nat → Nat} : ∀ {n : Nat}, (∀ i, i < n → f i = g i) → sm f n = sm g n
  | 0, _ => rfl
  | n + 1, h => by
    show sm f n + f n = sm g n + g n
    rw [sm_congr (fun i hi => h i (by omega)), h n (by omega)]
/-- a loop whose values are known at each turn -/
theorem loop_val {α β : Type} {F : Nat → Int32 → α → Option β} {N : Nat} {val : Nat → α} {r : β} (hN : N < 4000)
    (hs : ∀ n i, i < N → F (n + 1) (nI i) (val i) = F n (nI (i + 1)) (val (i + 1))) (he : ∀ n, F (n + 1) (nI N) (val N) = some r) : F gFU 0 (val 0) = some r := by
  have key : ∀ k i n, i + k = N → k < n → F n (nI i) (val i) = some r := by
    intro k
    induction k with
    | zero =>
      intro i n hi hn
      obtain ⟨m, rfl⟩ : ∃ m, n = m + 1 := ⟨n - 1, by omega⟩
      have hi : i = N := by omega
      subst hi
      exact he m
    | succ k ih =>
      intro i n hi hn
      obtain ⟨m, rfl⟩ : ∃ m, n = m + 1 := ⟨n - 1, by omega⟩
      rw [hs m i (by omega)]
      exact ih (i + 1) m (by omega) (by omega)
  exact key N 0 gFU (by omega) (by rw [gFU_eq]; omega)
/-- a loop that sums -/
theorem loop_sum {β : Type} {F : Nat → Int32 → Int32 → Option β} {f : Nat → Nat} {N : Nat} {fin : Int32 → β} (hN : N < 4000) (hb : sm f N ≤ 4096)
    (hs : ∀ n i v, i < N → F (n + 1) (nI i) v = F n (nI (i + 1)) (v + nI (f i))) (he : ∀ n v, F (n + 1) (nI N) v = some (fin v)) : F gFU 0 0 = some (fin (nI (sm f N))) := by
  refine loop_val (val := fun i => nI (sm f i)) hN (fun n i hi => ?_) (fun n => he n _)
  rw [hs n i _ hi, nI_al (Nat.le_trans (sm_mono (f := f) (show i + 1 ≤ N from hi)) hb)]
  rfl

