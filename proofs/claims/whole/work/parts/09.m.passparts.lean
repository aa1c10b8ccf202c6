theorem rL_eq (σ : Sg) (i j : Nat) (x : Int64) : rL (sL σ i j x) i j = x := by rw [rL_sL, if_pos ⟨rfl, rfl⟩]
theorem rL_ne {σ : Sg} {i j i' j' : Nat} {x : Int64} (h : i' ≠ i ∨ j' ≠ j) : rL (sL σ i j x) i' j' = rL σ i' j' := by rw [rL_sL, if_neg (by omega)]
theorem t64 (x : Int32) : x.toInt64 = Int64.ofInt x.toInt := (Int64.ofInt_int32ToInt x).symm
/-- the orders without the half hour's -/
def fg (O : Vw) (h : Int32) : Vw
  | 0, j => if fa O h = -1 then O 0 j else if j = 0 then O 0 0 - 1 else O 0 j
  | 1, j => if fa O h = -1 then O 1 j else if kI j = fa O h then O 1 (nO O - 1) else O 1 j
  | 2, j => if fa O h = -1 then O 2 j else if kI j = fa O h then O 2 (nO O - 1) else O 2 j
  | i, j => O i j
theorem kI_inj {a b : Nat} (ha : a < 1000) (hb : b < 1000) : kI a = kI b ↔ a = b := by
  constructor
  · intro h
    have h1 := kI_int (k := a) (by omega)
    have h2 := kI_int (k := b) (by omega)
    rw [h] at h1
    omega
  · intro h; rw [h]
theorem O0_i {O : Vw} (hB : BO O) : O 0 0 = kI (nO O) := kI_of (nO_i hB).1
theorem fg_b {O : Vw} {h : Int32} (hB : BO O) : BO (fg O h) := by
  have h1 := nO_i hB
  have h2 := hB.1
  refine ⟨?_, fun j => ?_⟩
  · show bd 0 6 (if fa O h = -1 then O 0 0 else if 0 = 0 then O 0 0 - 1 else O 0 0)
    rcases fa_x (h := h) hB with e | ⟨j, hj, e, _⟩
    · rw [if_pos e]; exact h2
    · rw [if_neg (by rw [e]; exact kI_ne (by omega)), if_pos rfl]
      have h3 := (bd_sub (y := 1) h2 (bd_k 1 rfl (by decide) (by decide) : bd 1 1 _) (by decide) (by decide)).2
      have h4 : (1 : Int32).toInt = 1 := rfl
      unfold bd at h2 ⊢
      omega
  · show (if fa O h = -1 then O 2 j else if kI j = fa O h then O 2 (nO O - 1) else O 2 j) = 0 ∨ (if fa O h = -1 then O 2 j else if kI j = fa O h then O 2 (nO O - 1) else O 2 j) = 1
    split
    · exact hB.2 j
    · split
      · exact hB.2 _
      · exact hB.2 j
theorem fg_c {σ : Sg} {O : Vw} {h : Int32} (hO : Oc σ O) (hB : BO O) : Oc (f_X1_forget h σ) (fg O h) ∧ (∀ k j, k < 10 ∨ 12 < k → rI (f_X1_forget h σ) k j = rI σ k j) ∧ (f_X1_forget h σ).2 = σ.2 := by
  have h1 := nO_i hB
  have e1 : (1 : Int32).toInt = 1 := rfl
  unfold f_X1_forget
  rw [fa_c hO hB]
  rcases fa_x (h := h) hB with e | ⟨j, hj, e, _⟩
  · rw [if_pos (by rw [e]; decide)]
    refine ⟨⟨?_, fun i hi => ?_⟩, fun _ _ _ => rfl, rfl⟩
    · show _ = if fa O h = -1 then O 0 0 else _
      rw [if_pos e]; exact hO.1
    · show _ = (if fa O h = -1 then O 1 i else _) ∧ _ = (if fa O h = -1 then O 2 i else _)
      rw [if_pos e, if_pos e]; exact hO.2 i hi
  · have hne : ¬ fa O h = -1 := by rw [e]; exact kI_ne (by omega)
    rw [if_neg (by rw [e, i_lt, kI_int (by omega)]; have : (0 : Int32).toInt = 0 := rfl; omega), e, kI_nat (by omega)]
    simp (disch := omega) only [rI_eq, rI_ne]
    have ec : (rI σ 10 2 - 1).toNatClampNeg = nO O - 1 := by
      rw [hO.1, O0_i hB, show (1 : Int32) = kI 1 from rfl, kI_sub (by omega) (by omega), kI_nat (by omega)]
    rw [ec]
    refine ⟨⟨?_, fun i hi => ?_⟩, fun k j hk => ?_, rfl⟩
    · show _ = if fa O h = -1 then O 0 0 else if 0 = 0 then O 0 0 - 1 else O 0 0
      rw [if_neg hne, if_pos rfl, rI_ne (by omega), rI_ne (by omega), rI_eq, hO.1]
    · show _ = (if fa O h = -1 then O 1 i else if kI i = fa O h then O 1 (nO O - 1) else O 1 i) ∧ _ = (if fa O h = -1 then O 2 i else if kI i = fa O h then O 2 (nO O - 1) else O 2 i)
      rw [if_neg hne, if_neg hne, e]
      by_cases q : i = j
      · subst q
        rw [if_pos rfl, if_pos rfl, rI_ne (by omega), rI_eq, rI_eq]
        exact hO.2 _ (by omega)
      · rw [if_neg (fun z => q ((kI_inj (by omega) (by omega)).mp z)), if_neg (fun z => q ((kI_inj (by omega) (by omega)).mp z)), rI_ne (by omega), rI_ne (by omega), rI_ne (by omega), rI_ne (by omega), rI_ne (by omega), rI_ne (by omega)]
        exact hO.2 i hi
    · rw [rI_ne (by omega), rI_ne (by omega), rI_ne (by omega)]
theorem fg_m {σ : Sg} {O : Vw} {h : Int32} (hO : Om σ O) (hB : BO O) (hne : ¬ fa O h = -1) : Om (f_X6_forgets (fa O h) σ) (fg O h) ∧ (∀ k j, k ≠ 28 → k ≠ 29 → ¬ (k = 19 ∧ j = 16) → rI (f_X6_forgets (fa O h) σ) k j = rI σ k j) ∧ (f_X6_forgets (fa O h) σ).2 = σ.2 ∧ ((∀ j, vp_nar .boolean (rI σ 29 j) = rI σ 29 j) → ∀ j, vp_nar .boolean (rI (f_X6_forgets (fa O h) σ) 29 j) = rI (f_X6_forgets (fa O h) σ) 29 j) := by
  have h1 := nO_i hB
  rcases fa_x (h := h) hB with e | ⟨j, hj, e, _⟩
  · exact absurd e hne
  · unfold f_X6_forgets
    rw [e, kI_nat (by omega)]
    simp (disch := omega) only [rI_eq, rI_ne]
    have ec : (rI σ 19 16 - 1).toNatClampNeg = nO O - 1 := by
      rw [hO.1, O0_i hB, show (1 : Int32) = kI 1 from rfl, kI_sub (by omega) (by omega), kI_nat (by omega)]
    rw [ec]
    refine ⟨⟨?_, fun i hi => ?_⟩, fun k j hk hk2 hk3 => ?_, rfl, fun hb i => ?_⟩
    · show _ = if fa O h = -1 then O 0 0 else if 0 = 0 then O 0 0 - 1 else O 0 0
      rw [if_neg hne, if_pos rfl, rI_ne (by omega), rI_ne (by omega), rI_eq, hO.1]
    · show _ = (if fa O h = -1 then O 1 i else if kI i = fa O h then O 1 (nO O - 1) else O 1 i) ∧ _ = (if fa O h = -1 then O 2 i else if kI i = fa O h then O 2 (nO O - 1) else O 2 i)
      rw [if_neg hne, if_neg hne, e]
      by_cases q : i = j
      · subst q
        rw [if_pos rfl, if_pos rfl, rI_ne (by omega), rI_eq, rI_eq]
        exact hO.2 _ (by omega)
      · rw [if_neg (fun z => q ((kI_inj (by omega) (by omega)).mp z)), if_neg (fun z => q ((kI_inj (by omega) (by omega)).mp z)), rI_ne (by omega), rI_ne (by omega), rI_ne (by omega), rI_ne (by omega), rI_ne (by omega), rI_ne (by omega)]
        exact hO.2 i hi
    · rw [rI_ne (by omega), rI_ne (by omega), rI_ne (by omega)]
    · by_cases q : i = j
      · subst q; rw [rI_eq]; exact hb _
      · rw [rI_ne (by omega), rI_ne (by omega), rI_ne (by omega)]; exact hb i
theorem ad_loop : ∀ (n k : Nat) (σ : Sg), k + n = 4 → (∀ j, j < 3 → rI (f_X0_add_l100 0 n (kI k) σ) 18 j = if k ≤ j then rI σ 18 j + rI σ 38 j else rI σ 18 j) ∧ (∀ i j, i ≠ 18 → rI (f_X0_add_l100 0 n (kI k) σ) i j = rI σ i j) ∧ (f_X0_add_l100 0 n (kI k) σ).2 = σ.2
  | 0, k, σ, h0 => ⟨fun j hj => by rw [if_neg (by omega)]; rfl, fun _ _ _ => rfl, rfl⟩
  | n + 1, k, σ, h0 => by
    have h3 : (3 : Int32).toInt = 3 := rfl
    rw [f_X0_add_l100]
    by_cases c : k = 3
    · subst c
      rw [if_pos (by decide)]
      exact ⟨fun j hj => by rw [if_neg (by omega)], fun _ _ _ => rfl, rfl⟩
    · by_cases c4 : k = 4
      · omega
      · rw [if_neg (by rw [i_le, h3, kI_int (by omega)]; omega), kI_nat (by omega), kI_succ]
        have ih := ad_loop n (k + 1) (sI σ 18 k (rI σ 18 k + rI σ (sid 0 + 5) k)) (by omega)
        refine ⟨fun j hj => ?_, fun i j hi => (ih.2.1 i j hi).trans (rI_ne (by omega)), ih.2.2⟩
        rw [ih.1 j hj]
        by_cases q : j = k
        · subst q
          rw [if_neg (by omega), if_pos (Nat.le_refl _), rI_eq]
        · rw [rI_ne (by omega), rI_ne (by omega)]
          by_cases q2 : k ≤ j
          · rw [if_pos q2, if_pos (by omega)]
          · rw [if_neg q2, if_neg (by omega)]
theorem ad_c (σ : Sg) : (∀ j, j < 3 → rI (f_X0_add 0 σ) 18 j = rI σ 18 j + rI σ 38 j) ∧ (∀ i j, i ≠ 18 → rI (f_X0_add 0 σ) i j = rI σ i j) ∧ (∀ i j, i ≠ 17 → rL (f_X0_add 0 σ) i j = rL σ i j) ∧ rL (f_X0_add 0 σ) 17 1 = rL σ 17 1 + (rI σ 33 6).toInt64 ∧ rL (f_X0_add 0 σ) 17 2 = rL σ 17 2 + (rI σ 33 5).toInt64 ∧ rL (f_X0_add 0 σ) 17 3 = rL σ 17 3 + (rI σ 33 7).toInt64 ∧ rL (f_X0_add 0 σ) 17 4 = rL σ 17 4 + (rI σ 33 9).toInt64 ∧ rL (f_X0_add 0 σ) 17 5 = rL σ 17 5 + (rI σ 33 8).toInt64 ∧ rL (f_X0_add 0 σ) 17 6 = rL σ 17 6 + (rI σ 33 10).toInt64 ∧ rL (f_X0_add 0 σ) 17 7 = rL σ 17 7 + (rI σ 33 11).toInt64 ∧ rL (f_X0_add 0 σ) 17 8 = rL σ 17 8 := by
  unfold f_X0_add
  simp (disch := omega) only [rI_sL, rL_ne]
  have h := ad_loop 4 0
  have e : ∀ τ i j, rL (f_X0_add_l100 0 4 0 τ) i j = rL τ i j := fun τ i j => by
    have := (h τ rfl).2.2
    show rL (f_X0_add_l100 0 4 (kI 0) τ) i j = _
    unfold rL
    rw [this]
  refine ⟨fun j hj => ?_, fun i j hi => ?_, fun i j hi => ?_, ?_, ?_, ?_, ?_, ?_, ?_, ?_, ?_⟩
  · exact ((h _ rfl).1 j hj).trans (by rw [if_pos (Nat.zero_le _)]; rfl)
  · exact ((h _ rfl).2.1 i j hi)
  · rw [e]; simp (disch := omega) only [rL_ne]
  all_goals (rw [e]; simp (disch := omega) only [rL_ne, rL_eq])
