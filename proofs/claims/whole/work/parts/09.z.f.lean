theorem te_fa {O : Vw} {h : Int32} (hB : BO O) : te O h = -1 ↔ fa O h = -1 := by
  unfold te
  constructor
  · intro q
    refine Classical.byContradiction fun c => ?_
    rw [if_neg c] at q
    rcases hB.2 (fa O h).toNatClampNeg with z | z <;> rw [z] at q <;> exact absurd q (by decide)
  · intro c; rw [if_pos c]
/-- the model's order that goes through -/
def om (O : Vw) (h on : Int32) (τ : Sg) : Int32 × Sg := if fa O h = -1 then (kI (nO O + 1), sI (sI (sI (sI τ 19 32 0) 28 (nO O) h) 19 16 (kI (nO O + 1))) 29 (nO O) on) else (O 0 0, sI (sI τ 19 32 0) 29 (fa O h).toNatClampNeg on)
theorem om_c {τ : Sg} {S w O : Vw} {p hz : Nat} {M : Mt} {sh : Nat → Int32} {h on : Int32} (hM : IM τ S w O p hz M sh) (hB : BO O) (hn : fa O h = -1 → nO O < 6) (hon : on = 0 ∨ on = 1) : IM (om O h on τ).2 S w (pu O h on) p hz M sh ∧ (om O h on τ).1 = pu O h on 0 0 ∧ rI (om O h on τ).2 19 32 = 0 ∧ Cc τ (om O h on τ).2 ∧ ∀ j, rL (om O h on τ).2 31 j = rL τ 31 j := by
  have h1 := nO_i hB
  obtain ⟨⟨⟨q1, q2, q3, q4, q5⟩, hO, h3⟩, h4, h5, hb, h7, h8⟩ := hM
  have hnar : vp_nar .boolean on = on := by rcases hon with z | z <;> rw [z] <;> rfl
  unfold om
  rcases fa_x (h := h) hB with e | ⟨j, hj, e, _⟩
  · have hk := hn e
    rw [if_pos e]
    dsimp only
    refine ⟨⟨⟨⟨?_, fun j hj => ?_, fun j hj => ?_, fun j hj => ?_, fun j hj => ?_⟩, ⟨?_, fun i hi => ?_⟩, ?_⟩, h4.of (fun j => ?_), ?_, fun j => ?_, h7, fun j hj => ?_⟩, ?_, ?_, ⟨fun k j hk => ?_, fun _ => rfl⟩, fun _ => rfl⟩
    · simp (disch := omega) only [rI_ne]; exact q1
    · simp (disch := omega) only [rI_ne]; exact q2 j hj
    · simp (disch := omega) only [rI_ne]; exact q3 j hj
    · simp (disch := omega) only [rI_ne]; exact q4 j hj
    · simp (disch := omega) only [rI_ne]; exact q5 j hj
    · show _ = if fa O h = -1 ∧ 0 = 0 then O 0 0 + 1 else O 0 0
      rw [if_pos ⟨e, rfl⟩, rI_ne (by omega), rI_eq, O0_i hB, kI_succ]
    · show _ = (if fa O h = -1 ∧ i = nO O then h else O 1 i) ∧ _ = (if (fa O h = -1 ∧ i = nO O) ∨ kI i = fa O h then on else O 2 i)
      by_cases q : i = nO O
      · rw [if_pos ⟨e, q⟩, if_pos (Or.inl ⟨e, q⟩), q, rI_ne (by omega), rI_ne (by omega), rI_eq, rI_eq]
        exact ⟨rfl, rfl⟩
      · rw [if_neg (fun z => q z.2), if_neg (by
          rintro (z | z)
          · exact q z.2
          · rw [e] at z; exact kI_ne (by omega) z)]
        simp (disch := omega) only [rI_ne]
        exact hO.2 i hi
    · simp (disch := omega) only [rI_ne]; exact h3
    · simp (disch := omega) only [rI_ne]
    · simp (disch := omega) only [rI_ne]; exact h5
    · by_cases q : j = nO O
      · rw [q, rI_eq]; exact hnar
      · simp (disch := omega) only [rI_ne]; exact hb j
    · simp (disch := omega) only [rI_ne]; exact h8 j hj
    · show _ = if fa O h = -1 ∧ 0 = 0 then O 0 0 + 1 else O 0 0
      rw [if_pos ⟨e, rfl⟩, O0_i hB, kI_succ]
    · simp (disch := omega) only [rI_ne, rI_eq]
    · simp (disch := omega) only [rI_ne]
  · have hne : ¬ fa O h = -1 := by rw [e]; exact kI_ne (by omega)
    rw [if_neg hne, e, kI_nat (by omega)]
    dsimp only
    refine ⟨⟨⟨⟨?_, fun j hj => ?_, fun j hj => ?_, fun j hj => ?_, fun j hj => ?_⟩, ⟨?_, fun i hi => ?_⟩, ?_⟩, h4.of (fun j => ?_), ?_, fun i => ?_, h7, fun j hj => ?_⟩, ?_, ?_, ⟨fun k j hk => ?_, fun _ => rfl⟩, fun _ => rfl⟩
    · simp (disch := omega) only [rI_ne]; exact q1
    · simp (disch := omega) only [rI_ne]; exact q2 j hj
    · simp (disch := omega) only [rI_ne]; exact q3 j hj
    · simp (disch := omega) only [rI_ne]; exact q4 j hj
    · simp (disch := omega) only [rI_ne]; exact q5 j hj
    · show _ = if fa O h = -1 ∧ 0 = 0 then O 0 0 + 1 else O 0 0
      rw [if_neg (fun z => hne z.1), rI_ne (by omega), rI_ne (by omega)]; exact hO.1
    · show _ = (if fa O h = -1 ∧ i = nO O then h else O 1 i) ∧ _ = (if (fa O h = -1 ∧ i = nO O) ∨ kI i = fa O h then on else O 2 i)
      rw [if_neg (fun z => hne z.1), rI_ne (by omega), rI_ne (by omega)]
      refine ⟨(hO.2 i hi).1, ?_⟩
      by_cases q : i = j
      · rw [if_pos (Or.inr (by rw [q, e])), q, rI_eq]
      · rw [if_neg (by
          rintro (z | z)
          · exact hne z.1
          · rw [e] at z; exact q ((kI_inj (by omega) (by omega)).mp z)), rI_ne (by omega), rI_ne (by omega)]
        exact (hO.2 i hi).2
    · simp (disch := omega) only [rI_ne]; exact h3
    · simp (disch := omega) only [rI_ne]
    · simp (disch := omega) only [rI_ne]; exact h5
    · by_cases q : i = j
      · rw [q, rI_eq]; exact hnar
      · simp (disch := omega) only [rI_ne]; exact hb i
    · simp (disch := omega) only [rI_ne]; exact h8 j hj
    · show _ = if fa O h = -1 ∧ 0 = 0 then O 0 0 + 1 else O 0 0
      rw [if_neg (fun z => hne z.1)]
    · simp (disch := omega) only [rI_ne, rI_eq]
    · simp (disch := omega) only [rI_ne]
