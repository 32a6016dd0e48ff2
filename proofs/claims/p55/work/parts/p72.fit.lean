/-! how many fit: the lightest first -/
def insL (v : Nat) : List Nat → List Nat
  | [] => [v]
  | x :: xs => if v ≤ x then v :: x :: xs else x :: insL v xs
def gsL : List Nat → Nat → Nat
  | [], _ => 0
  | x :: xs, c => if x ≤ c then gsL xs (c - x) + 1 else 0
def srtL : List Nat → Prop
  | [] => True
  | x :: xs => (∀ y, y ∈ xs → x ≤ y) ∧ srtL xs
def fdL : List Nat → Nat → Nat → Nat × Nat
  | [], c, n => (c, n)
  | x :: xs, c, n => if x ≤ c then fdL xs (c - x) (n + 1) else fdL xs c n
theorem gs_z {xs : List Nat} {c : Nat} (h : ∀ y, y ∈ xs → c < y) : gsL xs c = 0 := by
  cases xs with
  | nil => rfl
  | cons x xs =>
    have := h x List.mem_cons_self
    exact if_neg (by omega)
theorem gs_lip {w : Nat} : ∀ {xs : List Nat} {c : Nat}, (∀ y, y ∈ xs → w ≤ y) → w ≤ c → gsL xs c ≤ gsL xs (c - w) + 1
  | [], _, _, _ => by unfold gsL; omega
  | x :: xs, c, h, hc => by
    have hx := h x List.mem_cons_self
    have ht : ∀ y, y ∈ xs → w ≤ y := fun y hy => h y (List.mem_cons_of_mem _ hy)
    unfold gsL
    by_cases c1 : x ≤ c
    · rw [if_pos c1]
      by_cases c2 : x ≤ c - w
      · rw [if_pos c2]
        have := gs_lip (xs := xs) (c := c - x) ht (by omega)
        rw [show c - w - x = c - x - w by omega]
        omega
      · rw [if_neg c2, gs_z (c := c - x) (fun y hy => by have := ht y hy; omega)]
        omega
    · rw [if_neg c1]
      omega
theorem gs_ins {v : Nat} : ∀ {xs : List Nat} {c : Nat}, srtL xs → gsL (insL v xs) c = if v ≤ c then (if gsL xs c < gsL xs (c - v) + 1 then gsL xs (c - v) + 1 else gsL xs c) else gsL xs c
  | [], c, _ => by
    show (if v ≤ c then 0 + 1 else 0) = _
    by_cases h : v ≤ c
    · rw [if_pos h, if_pos h]; rfl
    · rw [if_neg h, if_neg h]; rfl
  | x :: xs, c, hs => by
    obtain ⟨h1, h2⟩ := hs
    by_cases hv : v ≤ x
    · have e : insL v (x :: xs) = v :: x :: xs := if_pos hv
      rw [e]
      show (if v ≤ c then gsL (x :: xs) (c - v) + 1 else 0) = _
      have hall : ∀ y, y ∈ x :: xs → v ≤ y := fun y hy => by
        rcases List.mem_cons.mp hy with q | q
        · omega
        · have := h1 y q; omega
      by_cases hc : v ≤ c
      · rw [if_pos hc, if_pos hc]
        have := gs_lip hall hc
        split <;> omega
      · rw [if_neg hc, if_neg hc, gs_z (fun y hy => by have := hall y hy; omega)]
    · have e : insL v (x :: xs) = x :: insL v xs := if_neg hv
      rw [e]
      show (if x ≤ c then gsL (insL v xs) (c - x) + 1 else 0) = if v ≤ c then (if (if x ≤ c then gsL xs (c - x) + 1 else 0) < (if x ≤ c - v then gsL xs (c - v - x) + 1 else 0) + 1 then (if x ≤ c - v then gsL xs (c - v - x) + 1 else 0) + 1 else (if x ≤ c then gsL xs (c - x) + 1 else 0)) else (if x ≤ c then gsL xs (c - x) + 1 else 0)
      by_cases hx : x ≤ c
      · rw [if_pos hx, if_pos hx, gs_ins h2]
        by_cases hc : v ≤ c - x
        · rw [if_pos hc, if_pos (show v ≤ c by omega), if_pos (show x ≤ c - v by omega), show c - v - x = c - x - v by omega]
          by_cases hm : gsL xs (c - x) < gsL xs (c - x - v) + 1
          · rw [if_pos hm, if_pos (by omega)]
          · rw [if_neg hm, if_neg (by omega)]
        · rw [if_neg hc]
          by_cases hc2 : v ≤ c
          · rw [if_pos hc2, if_neg (show ¬ x ≤ c - v by omega)]
            by_cases hm : gsL xs (c - x) + 1 < 0 + 1
            · omega
            · rw [if_neg hm]
          · rw [if_neg hc2]
      · rw [if_neg hx, if_neg hx, if_neg (show ¬ v ≤ c by omega)]
theorem fd_z {xs : List Nat} {c n : Nat} : (∀ y, y ∈ xs → c < y) → fdL xs c n = (c, n) := by
  induction xs with
  | nil => intro _; rfl
  | cons x xs ih =>
    intro h
    have := h x List.mem_cons_self
    show (if x ≤ c then _ else fdL xs c n) = _
    rw [if_neg (by omega)]
    exact ih (fun y hy => h y (List.mem_cons_of_mem _ hy))
theorem fd_gs : ∀ {xs : List Nat} {c n : Nat}, srtL xs → (fdL xs c n).2 = n + gsL xs c
  | [], _, _, _ => rfl
  | x :: xs, c, n, h => by
    show (if x ≤ c then fdL xs (c - x) (n + 1) else fdL xs c n).2 = n + if x ≤ c then gsL xs (c - x) + 1 else 0
    by_cases hx : x ≤ c
    · rw [if_pos hx, if_pos hx, fd_gs h.2]
      omega
    · rw [if_neg hx, if_neg hx, fd_z (fun y hy => by have := h.1 y hy; omega)]; rfl
theorem fd_app {xs ys : List Nat} {c n : Nat} : fdL (xs ++ ys) c n = fdL ys (fdL xs c n).1 (fdL xs c n).2 := by
  induction xs generalizing c n with
  | nil => rfl
  | cons x xs ih =>
    show (if x ≤ c then fdL (xs ++ ys) (c - x) (n + 1) else fdL (xs ++ ys) c n) = fdL ys (if x ≤ c then fdL xs (c - x) (n + 1) else fdL xs c n).1 (if x ≤ c then fdL xs (c - x) (n + 1) else fdL xs c n).2
    by_cases hx : x ≤ c
    · rw [if_pos hx, if_pos hx, ih]
    · rw [if_neg hx, if_neg hx, ih]
theorem fd_rep {w : Nat} (hw : 1 ≤ w) : ∀ {n c m : Nat}, fdL (List.replicate n w) c m = (c - min (c / w) n * w, m + min (c / w) n)
  | 0, c, m => by
    show (c, m) = _
    rw [Nat.min_zero, Nat.zero_mul]; rfl
  | n + 1, c, m => by
    rw [List.replicate_succ]
    show (if w ≤ c then fdL (List.replicate n w) (c - w) (m + 1) else fdL (List.replicate n w) c m) = _
    by_cases h : w ≤ c
    · have e : c / w = (c - w) / w + 1 := Nat.div_eq_sub_div hw h
      rw [if_pos h, fd_rep hw, e, Nat.succ_min_succ, Nat.succ_mul]
      congr 1 <;> omega
    · rw [if_neg h, fd_rep hw, Nat.div_eq_of_lt (by omega), Nat.zero_min, Nat.zero_min]
/-- so many of each weight, in order -/
def Pl (f : Nat → Nat) : Nat → List Nat
  | 0 => []
  | k + 1 => Pl f k ++ List.replicate (f (k + 1)) (k + 1)
theorem Pl_mem {f : Nat → Nat} : ∀ {k y : Nat}, y ∈ Pl f k → 1 ≤ y ∧ y ≤ k
  | 0, y, h => absurd h List.not_mem_nil
  | k + 1, y, h => by
    rcases List.mem_append.mp h with q | q
    · have := Pl_mem q; omega
    · have := (List.mem_replicate.mp q).2; omega
theorem srt_app {xs : List Nat} {n v : Nat} : srtL xs → (∀ y, y ∈ xs → y ≤ v) → srtL (xs ++ List.replicate n v) := by
  induction xs with
  | nil =>
    intro _ _
    show srtL (List.replicate n v)
    induction n with
    | zero => exact trivial
    | succ n ih =>
      rw [List.replicate_succ]
      exact ⟨fun y hy => by have := (List.mem_replicate.mp hy).2; omega, ih⟩
  | cons x xs ih =>
    intro h1 h2
    refine ⟨fun y hy => ?_, ih h1.2 (fun y hy => h2 y (List.mem_cons_of_mem _ hy))⟩
    rcases List.mem_append.mp hy with q | q
    · exact h1.1 y q
    · have := (List.mem_replicate.mp q).2
      have := h2 x List.mem_cons_self
      omega
theorem Pl_srt {f : Nat → Nat} : ∀ k, srtL (Pl f k)
  | 0 => trivial
  | k + 1 => srt_app (Pl_srt k) (fun y hy => by have := Pl_mem hy; omega)
theorem ins_app {v : Nat} {xs ys : List Nat} : (∀ x, x ∈ xs → x < v) → insL v (xs ++ ys) = xs ++ insL v ys := by
  induction xs with
  | nil => intro _; rfl
  | cons x xs ih =>
    intro h
    have := h x List.mem_cons_self
    show (if v ≤ x then _ else x :: insL v (xs ++ ys)) = x :: (xs ++ insL v ys)
    rw [if_neg (by omega), ih (fun y hy => h y (List.mem_cons_of_mem _ hy))]
theorem ins_hd {v : Nat} {ys : List Nat} (h : ∀ y, y ∈ ys → v ≤ y) : insL v ys = v :: ys := by
  cases ys with
  | nil => rfl
  | cons y ys => exact if_pos (h y List.mem_cons_self)
theorem ins_app2 {v : Nat} {xs ys : List Nat} (h : ∀ y, y ∈ ys → v ≤ y) : insL v (xs ++ ys) = insL v xs ++ ys := by
  induction xs with
  | nil => exact ins_hd h
  | cons x xs ih =>
    show (if v ≤ x then v :: x :: (xs ++ ys) else x :: insL v (xs ++ ys)) = (if v ≤ x then v :: x :: xs else x :: insL v xs) ++ ys
    by_cases c : v ≤ x
    · rw [if_pos c, if_pos c]; rfl
    · rw [if_neg c, if_neg c, ih]; rfl
theorem Pl_congr {f g : Nat → Nat} : ∀ {k : Nat}, (∀ w, 1 ≤ w → w ≤ k → f w = g w) → Pl f k = Pl g k
  | 0, _ => rfl
  | k + 1, h => by
    show Pl f k ++ _ = Pl g k ++ _
    rw [Pl_congr (fun w w1 w2 => h w w1 (by omega)), h (k + 1) (by omega) (by omega)]
theorem Pl_ins {f g : Nat → Nat} {v : Nat} (hv : 1 ≤ v) (h1 : g v = f v + 1) (h2 : ∀ w, w ≠ v → g w = f w) : ∀ {k : Nat}, v ≤ k → Pl g k = insL v (Pl f k)
  | 0, h => by omega
  | k + 1, h => by
    show Pl g k ++ List.replicate (g (k + 1)) (k + 1) = insL v (Pl f k ++ List.replicate (f (k + 1)) (k + 1))
    by_cases c : v = k + 1
    · subst c
      rw [ins_app (fun x hx => by have := Pl_mem hx; omega), h1, List.replicate_succ, ins_hd (fun y hy => by have := (List.mem_replicate.mp hy).2; omega), Pl_congr (fun w w1 w2 => h2 w (by omega))]
    · rw [ins_app2 (fun y hy => by have := (List.mem_replicate.mp hy).2; omega), Pl_ins hv h1 h2 (k := k) (by omega), h2 (k + 1) (by omega)]
theorem gs_le {xs : List Nat} : ∀ {c : Nat}, (∀ y, y ∈ xs → 1 ≤ y) → gsL xs c ≤ c := by
  induction xs with
  | nil => intro c _; exact Nat.zero_le _
  | cons x xs ih =>
    intro c h
    have hx := h x List.mem_cons_self
    show (if x ≤ c then gsL xs (c - x) + 1 else 0) ≤ c
    by_cases c1 : x ≤ c
    · rw [if_pos c1]
      have := ih (c := c - x) (fun y hy => h y (List.mem_cons_of_mem _ hy))
      omega
    · rw [if_neg c1]; omega

