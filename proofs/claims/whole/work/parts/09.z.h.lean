/-- a table with some of its slots told anew -/
def ft (f : Nat → Int32) (fi la v : Int32) (s : Nat) : Int32 := if fi.toInt ≤ (s : Int) ∧ (s : Int) ≤ la.toInt then v else f s
theorem ft_step {f g : Nat → Int32} {fi la v y : Int32} {k : Nat} (h : ∀ s, s < 48 → g s = if s < k then ft f fi la v s else f s) (hy : y = ft f fi la v k) : ∀ s, s < 48 → (if s = k then y else g s) = if s < k + 1 then ft f fi la v s else f s := fun s hs => by
  by_cases c : s = k
  · rw [if_pos c, if_pos (by omega), c, hy]
  · rw [if_neg c, h s hs]
    by_cases c2 : s < k
    · rw [if_pos c2, if_pos (by omega)]
    · rw [if_neg c2, if_neg (by omega)]
theorem k48 {k : Nat} (h : k < 48) : ¬ 48 ≤ kI k := fun c => by
  rw [i_le, kI_int (by omega), show (48 : Int32).toInt = 48 from rfl] at c
  omega
theorem ft_c {a : Nat} {f : Nat → Int32} {fi la v : Int32} : ∀ (n k : Nat) (x : Int32) (τ : Sg), k + n = 49 → k ≤ 48 → x = ps (ft f fi la v) k → (∀ s, s < 48 → rI τ a s = if s < k then ft f fi la v s else f s) → (f_X5_fillSlots_l6 a fi la v n (kI k) x τ).1 = ps (ft f fi la v) 48 ∧ (∀ s, s < 48 → rI (f_X5_fillSlots_l6 a fi la v n (kI k) x τ).2 a s = ft f fi la v s) ∧ (∀ i j, i ≠ a → rI (f_X5_fillSlots_l6 a fi la v n (kI k) x τ).2 i j = rI τ i j) ∧ (f_X5_fillSlots_l6 a fi la v n (kI k) x τ).2.2 = τ.2
  | 0, k, x, τ, h0, h1, _, _ => absurd h0 (by omega)
  | n + 1, k, x, τ, h0, h1, hx, ht => by
    rw [f_X5_fillSlots_l6]
    by_cases c : k = 48
    · subst c
      rw [if_pos (show (48 : Int32) ≤ kI 48 by decide)]
      exact ⟨hx, fun s hs => by rw [ht s hs, if_pos hs], fun _ _ _ => rfl, rfl⟩
    · have hk : k < 48 := by omega
      rw [if_neg (k48 hk), kI_nat (by omega), kI_succ]
      by_cases q : fi.toInt ≤ (k : Int) ∧ (k : Int) ≤ la.toInt
      · rw [if_neg (show ¬ kI k < fi by rw [i_lt, kI_int (by omega)]; omega), if_neg (show ¬ la < kI k by rw [i_lt, kI_int (by omega)]; omega), rI_eq]
        have e : v = ft f fi la v k := (if_pos q).symm
        have g := ft_c (a := a) (f := f) (fi := fi) (la := la) (v := v) n (k + 1) (x + v) (sI τ a k v) (by omega) (by omega) (by rw [hx, ps, ← e]) (fun s hs => by
          rw [← ft_step ht e s hs, rI_sI]
          by_cases c2 : s = k
          · rw [if_pos ⟨rfl, c2⟩, if_pos c2]
          · rw [if_neg (fun z => c2 z.2), if_neg c2])
        exact ⟨g.1, g.2.1, fun i j hi => (g.2.2.1 i j hi).trans (rI_ne (Or.inl hi)), g.2.2.2⟩
      · have e : rI τ a k = ft f fi la v k := by rw [ht k hk, if_neg (by omega), ft, if_neg q]
        have g := ft_c (a := a) (f := f) (fi := fi) (la := la) (v := v) n (k + 1) (x + rI τ a k) τ (by omega) (by omega) (by rw [hx, ps, e]) (fun s hs => by
          rw [← ft_step ht e s hs]
          by_cases c2 : s = k
          · rw [if_pos c2, c2]
          · rw [if_neg c2])
        by_cases q1 : (k : Int) < fi.toInt
        · rw [if_pos (show kI k < fi by rw [i_lt, kI_int (by omega)]; omega)]
          exact g
        · rw [if_neg (show ¬ kI k < fi by rw [i_lt, kI_int (by omega)]; omega), if_pos (show la < kI k by rw [i_lt, kI_int (by omega)]; omega)]
          exact g
theorem in_k {k : Nat} {fi la : Int32} {σ : Sg} (hk : k < 48) : f_X6_in (kI k).toInt64 fi.toInt64 la.toInt64 σ = if fi.toInt ≤ (k : Int) ∧ (k : Int) ≤ la.toInt then 1 else 0 := by
  rw [in_if, i_l, i_l, kI_int (by omega)]
theorem ft_p {f : Nat → Int32} {fi la v : Int32} : ∀ (n k : Nat) (x : Int32) (τ : Sg), k + n = 49 → k ≤ 48 → x = ps (ft f fi la v) k → (∀ s, s < 48 → rI τ 27 s = if s < k then ft f fi la v s else f s) → (f_X6_setPrice_l61 fi la v n (kI k) x τ).1 = ps (ft f fi la v) 48 ∧ (∀ s, s < 48 → rI (f_X6_setPrice_l61 fi la v n (kI k) x τ).2 27 s = ft f fi la v s) ∧ (∀ i j, i ≠ 27 → rI (f_X6_setPrice_l61 fi la v n (kI k) x τ).2 i j = rI τ i j) ∧ (f_X6_setPrice_l61 fi la v n (kI k) x τ).2.2 = τ.2
  | 0, k, x, τ, h0, h1, _, _ => absurd h0 (by omega)
  | n + 1, k, x, τ, h0, h1, hx, ht => by
    rw [f_X6_setPrice_l61]
    by_cases c : k = 48
    · subst c
      rw [if_pos (show (48 : Int32) ≤ kI 48 by decide)]
      exact ⟨hx, fun s hs => by rw [ht s hs, if_pos hs], fun _ _ _ => rfl, rfl⟩
    · have hk : k < 48 := by omega
      have go : ∀ y, y = ft f fi la v k → (f_X6_setPrice_l61 fi la v n (kI (k + 1)) (x + y) (sI τ 27 k y)).1 = ps (ft f fi la v) 48 ∧ (∀ s, s < 48 → rI (f_X6_setPrice_l61 fi la v n (kI (k + 1)) (x + y) (sI τ 27 k y)).2 27 s = ft f fi la v s) ∧ (∀ i j, i ≠ 27 → rI (f_X6_setPrice_l61 fi la v n (kI (k + 1)) (x + y) (sI τ 27 k y)).2 i j = rI τ i j) ∧ (f_X6_setPrice_l61 fi la v n (kI (k + 1)) (x + y) (sI τ 27 k y)).2.2 = τ.2 := fun y e => by
        have g := ft_p (f := f) (fi := fi) (la := la) (v := v) n (k + 1) (x + y) (sI τ 27 k y) (by omega) (by omega) (by rw [hx, ps, e]) (fun s hs => by
          rw [← ft_step ht e s hs, rI_sI]
          by_cases c2 : s = k
          · rw [if_pos ⟨rfl, c2⟩, if_pos c2]
          · rw [if_neg (fun z => c2 z.2), if_neg c2])
        exact ⟨g.1, g.2.1, fun i j hi => (g.2.2.1 i j hi).trans (rI_ne (Or.inl hi)), g.2.2.2⟩
      rw [if_neg (k48 hk), kI_nat (by omega), kI_succ, in_k hk]
      by_cases q : fi.toInt ≤ (k : Int) ∧ (k : Int) ≤ la.toInt
      · rw [if_pos q, if_neg (show ¬ (1 : Int32) = 0 by decide), rI_eq]
        exact go v (if_pos q).symm
      · rw [if_neg q, if_pos rfl, rI_eq]
        exact go _ (by rw [ht k hk, if_neg (by omega), ft, if_neg q])
theorem ft_d {f : Nat → Int32} {fi la v : Int32} {u : Nat} (hu : u < 3) : ∀ (n k : Nat) (x : Int32) (τ : Sg), k + n = 49 → k ≤ 48 → x = ps (ft f fi la v) k → (∀ s, s < 48 → rI τ 25 (48 * u + s) = if s < k then ft f fi la v s else f s) → (f_X6_setDemand_l86 (kI u) fi la v n (kI k) x 1 τ).1 = ps (ft f fi la v) 48 ∧ (∀ s, s < 48 → rI (f_X6_setDemand_l86 (kI u) fi la v n (kI k) x 1 τ).2 25 (48 * u + s) = ft f fi la v s) ∧ (∀ i j, ¬ (i = 25 ∧ 48 * u ≤ j ∧ j < 48 * u + 48) → rI (f_X6_setDemand_l86 (kI u) fi la v n (kI k) x 1 τ).2 i j = rI τ i j) ∧ (f_X6_setDemand_l86 (kI u) fi la v n (kI k) x 1 τ).2.2 = τ.2
  | 0, k, x, τ, h0, h1, _, _ => absurd h0 (by omega)
  | n + 1, k, x, τ, h0, h1, hx, ht => by
    rw [f_X6_setDemand_l86]
    by_cases c : k = 48
    · subst c
      rw [if_pos (show (48 : Int32) ≤ kI 48 by decide)]
      exact ⟨hx, fun s hs => by rw [ht s hs, if_pos hs], fun _ _ _ => rfl, rfl⟩
    · have hk : k < 48 := by omega
      have go : ∀ y, y = ft f fi la v k → (f_X6_setDemand_l86 (kI u) fi la v n (kI (k + 1)) (x + y) 1 (sI τ 25 (48 * u + k) y)).1 = ps (ft f fi la v) 48 ∧ (∀ s, s < 48 → rI (f_X6_setDemand_l86 (kI u) fi la v n (kI (k + 1)) (x + y) 1 (sI τ 25 (48 * u + k) y)).2 25 (48 * u + s) = ft f fi la v s) ∧ (∀ i j, ¬ (i = 25 ∧ 48 * u ≤ j ∧ j < 48 * u + 48) → rI (f_X6_setDemand_l86 (kI u) fi la v n (kI (k + 1)) (x + y) 1 (sI τ 25 (48 * u + k) y)).2 i j = rI τ i j) ∧ (f_X6_setDemand_l86 (kI u) fi la v n (kI (k + 1)) (x + y) 1 (sI τ 25 (48 * u + k) y)).2.2 = τ.2 := fun y e => by
        have g := ft_d (f := f) (fi := fi) (la := la) (v := v) hu n (k + 1) (x + y) (sI τ 25 (48 * u + k) y) (by omega) (by omega) (by rw [hx, ps, e]) (fun s hs => by
          rw [← ft_step (g := fun s => rI τ 25 (48 * u + s)) ht e s hs, rI_sI]
          by_cases c2 : s = k
          · rw [if_pos ⟨rfl, by omega⟩, if_pos c2]
          · rw [if_neg (fun z => c2 (by omega)), if_neg c2])
        exact ⟨g.1, g.2.1, fun i j hi => (g.2.2.1 i j hi).trans (rI_ne (by omega)), g.2.2.2⟩
      rw [if_neg (k48 hk), kI_48, kI_nat (by omega), kI_succ, in_k hk]
      by_cases q : fi.toInt ≤ (k : Int) ∧ (k : Int) ≤ la.toInt
      · rw [if_pos q, if_neg (show ¬ (1 : Int32) = 0 by decide), rI_eq]
        exact go v (if_pos q).symm
      · rw [if_neg q, if_pos rfl, rI_eq]
        exact go _ (by rw [ht k hk, if_neg (by omega), ft, if_neg q])
/-- one row of the settings told anew -/
def ut (S : Vw) (i : Nat) (g : Nat → Int32) : Vw := fun a b => if a = i then g b else S a b
theorem cs_if (fi la : Int32) (σ : Sg) : f_X5_checkSlots fi la σ = if (0 ≤ fi.toInt ∧ fi.toInt ≤ 47) ∧ (fi.toInt ≤ la.toInt ∧ la.toInt ≤ 47) then 0 else 1 := by
  unfold f_X5_checkSlots
  rw [crI _ _ 0 47 rfl rfl, crI la (lo := fi) _ fi.toInt 47 rfl rfl]
  by_cases c1 : 0 ≤ fi.toInt ∧ fi.toInt ≤ 47
  · rw [if_pos c1, if_pos rfl]
    by_cases c2 : fi.toInt ≤ la.toInt ∧ la.toInt ≤ 47
    · rw [if_pos c2, if_pos rfl, if_pos ⟨c1, c2⟩]
    · rw [if_neg c2, if_neg (show ¬ (1 : Nat) = 0 by decide), if_neg (fun z => c2 z.2)]
  · rw [if_neg c1, if_neg (show ¬ (1 : Nat) = 0 by decide), if_neg (fun z => c1 z.1)]
