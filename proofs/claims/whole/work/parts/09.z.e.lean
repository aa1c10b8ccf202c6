/-- the orders with one more, or one told otherwise -/
def pu (O : Vw) (h v : Int32) : Vw
  | 0, j => if fa O h = -1 ∧ j = 0 then O 0 0 + 1 else O 0 j
  | 1, j => if fa O h = -1 ∧ j = nO O then h else O 1 j
  | 2, j => if (fa O h = -1 ∧ j = nO O) ∨ kI j = fa O h then v else O 2 j
  | i, j => O i j
theorem pu_b {O : Vw} {h v : Int32} (hB : BO O) (hn : fa O h = -1 → nO O < 6) (hv : v = 0 ∨ v = 1) : BO (pu O h v) := by
  have h1 := nO_i hB
  refine ⟨?_, fun j => ?_⟩
  · show bd 0 6 (if fa O h = -1 ∧ 0 = 0 then O 0 0 + 1 else O 0 0)
    by_cases c : fa O h = -1
    · rw [if_pos ⟨c, rfl⟩, O0_i hB, kI_succ]
      have := hn c
      exact bd_k ((nO O + 1 : Nat) : Int) (kI_int (by omega)) (by omega) (by omega)
    · rw [if_neg (fun q => c q.1)]; exact hB.1
  · show (if (fa O h = -1 ∧ j = nO O) ∨ kI j = fa O h then v else O 2 j) = 0 ∨ (if (fa O h = -1 ∧ j = nO O) ∨ kI j = fa O h then v else O 2 j) = 1
    split
    · exact hv
    · exact hB.2 j
theorem pu_c {σ : Sg} {O : Vw} {h v : Int32} (hO : Oc σ O) (hB : BO O) (hn : fa O h = -1 → nO O < 6) : Oc (f_X1_put h v σ) (pu O h v) ∧ (∀ k j, k < 10 ∨ 12 < k → rI (f_X1_put h v σ) k j = rI σ k j) ∧ (f_X1_put h v σ).2 = σ.2 := by
  have h1 := nO_i hB
  have h6 : (6 : Int32).toInt = 6 := rfl
  unfold f_X1_put
  rw [fa_c hO hB]
  rcases fa_x (h := h) hB with e | ⟨j, hj, e, _⟩
  · have hk := hn e
    rw [if_neg (by rw [e]; decide), hO.1, O0_i hB, if_pos (by rw [i_lt, kI_int (by omega), h6]; omega), kI_nat (by omega)]
    simp (disch := omega) only [rI_ne]
    rw [hO.1, O0_i hB, kI_succ]
    refine ⟨⟨?_, fun i hi => ?_⟩, fun k j hk => by rw [rI_ne (by omega), rI_ne (by omega), rI_ne (by omega)], rfl⟩
    · show _ = if fa O h = -1 ∧ 0 = 0 then O 0 0 + 1 else O 0 0
      rw [if_pos ⟨e, rfl⟩, rI_ne (by omega), rI_eq, O0_i hB, kI_succ]
    · show _ = (if fa O h = -1 ∧ i = nO O then h else O 1 i) ∧ _ = (if (fa O h = -1 ∧ i = nO O) ∨ kI i = fa O h then v else O 2 i)
      by_cases q : i = nO O
      · rw [if_pos ⟨e, q⟩, if_pos (Or.inl ⟨e, q⟩), q, rI_ne (by omega), rI_ne (by omega), rI_eq, rI_eq]
        exact ⟨rfl, rfl⟩
      · rw [if_neg (fun z => q z.2), if_neg (by
          rintro (z | z)
          · exact q z.2
          · rw [e] at z; exact kI_ne (by omega) z), rI_ne (by omega), rI_ne (by omega), rI_ne (by omega), rI_ne (by omega), rI_ne (by omega), rI_ne (by omega)]
        exact hO.2 i hi
  · have hne : ¬ fa O h = -1 := by rw [e]; exact kI_ne (by omega)
    rw [if_pos (by rw [e]; exact kI_nn (by omega)), e, kI_nat (by omega)]
    refine ⟨⟨?_, fun i hi => ?_⟩, fun k j hk => rI_ne (by omega), rfl⟩
    · show _ = if fa O h = -1 ∧ 0 = 0 then O 0 0 + 1 else O 0 0
      rw [if_neg (fun z => hne z.1), rI_ne (by omega)]; exact hO.1
    · show _ = (if fa O h = -1 ∧ i = nO O then h else O 1 i) ∧ _ = (if (fa O h = -1 ∧ i = nO O) ∨ kI i = fa O h then v else O 2 i)
      rw [if_neg (fun z => hne z.1), rI_ne (by omega)]
      refine ⟨(hO.2 i hi).1, ?_⟩
      by_cases q : i = j
      · rw [if_pos (Or.inr (by rw [q, e])), q, rI_eq]
      · rw [if_neg (by
          rintro (z | z)
          · exact hne z.1
          · rw [e] at z; exact q ((kI_inj (by omega) (by omega)).mp z)), rI_ne (by omega)]
        exact (hO.2 i hi).2
