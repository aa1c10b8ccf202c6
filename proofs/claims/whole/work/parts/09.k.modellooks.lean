theorem ia_a {S O : Vw} {p len s : Nat} {σ : Sg} {w : Vw} (hB : BS S) (hO : BO O) (hp : p < 900000) (hl : len ≤ 6) (hs : s < 2 ^ len) (hM : MLk σ S O p) (hw : BR S w) (hR : Rm σ w) : Mi σ (f_X6_isAllowed (kI s) (kI len) σ).2 ∧ (match vs S (tlO O p) (slP p) len 0 w s with | none => (f_X6_isAllowed (kI s) (kI len) σ).1 = 0 | some c => ¬ (f_X6_isAllowed (kI s) (kI len) σ).1 = 0 ∧ rI (f_X6_isAllowed (kI s) (kI len) σ).2 19 33 = c) := by
  have h6 : (2 : Nat) ^ len ≤ 2 ^ 6 := Nat.pow_le_pow_right (by decide) hl
  have m : Mi σ (sI σ 19 33 0) := ⟨fun i j h1 h2 h3 => rI_ne (by omega), rfl⟩
  have h := ia_c hB hO hp hl (s := s) (by omega) len 0 7 (sI σ 19 33 0) w (by omega) (by omega) (hM.ml m.ml) hw (hR.of (fun j => rI_ne (by omega)))
  rw [Nat.mod_eq_of_lt hs] at h
  refine ⟨m.trans h.1, ?_⟩
  have h2 := h.2
  generalize vs S (tlO O p) (slP p) len 0 w s = o at h2 ⊢
  cases o with
  | none => exact h2
  | some c => exact ⟨h2.1, by have := h2.2; rw [rI_eq, Int32.zero_add] at this; exact this⟩
theorem lb_loop {a b : Nat} (hab : a ≠ b) : ∀ (n k : Nat) (σ : Sg), k + n = 16 → k ≤ 15 → (∀ j, j < k → rI σ b j = rI σ a j) → (∀ j, j < 15 → rI (f_X6_laysBack_l2 a b n (kI k) σ) b j = rI σ a j) ∧ (∀ i j, i ≠ b → rI (f_X6_laysBack_l2 a b n (kI k) σ) i j = rI σ i j) ∧ (f_X6_laysBack_l2 a b n (kI k) σ).2 = σ.2
  | 0, k, σ, h0, h1, h => absurd h0 (by omega)
  | n + 1, k, σ, h0, h1, h => by
    rw [f_X6_laysBack_l2]
    by_cases c : k = 15
    · subst c
      rw [if_pos (by decide)]
      exact ⟨h, fun _ _ _ => rfl, rfl⟩
    · have h15 : (15 : Int32).toInt = 15 := rfl
      rw [if_neg (by rw [i_le, kI_int (by omega), h15]; omega), kI_nat (by omega), kI_succ]
      have ih := lb_loop hab n (k + 1) (sI σ b k (rI σ a k)) (by omega) (by omega) (fun j hj => by
        by_cases q : j = k
        · subst q; rw [rI_eq, rI_ne (by omega)]
        · rw [rI_ne (by omega), rI_ne (by omega)]; exact h j (by omega))
      exact ⟨fun j hj => (ih.1 j hj).trans (rI_ne (by omega)), fun i j hi => (ih.2.1 i j hi).trans (rI_ne (by omega)), ih.2.2⟩
theorem lb_c {a b : Nat} (hab : a ≠ b) (σ : Sg) : (∀ j, j < 15 → rI (f_X6_laysBack a b σ) b j = rI σ a j) ∧ (∀ i j, i ≠ b → rI (f_X6_laysBack a b σ) i j = rI σ i j) ∧ (f_X6_laysBack a b σ).2 = σ.2 := lb_loop hab 16 0 σ rfl (by decide) (fun j hj => absurd hj (by omega))
/-- how many of the first k are allowed -/
def cn (f : Nat → Option Int32) : Nat → Nat
  | 0 => 0
  | k + 1 => match f k with
    | none => cn f k
    | some _ => cn f k + 1
theorem cn_le (f : Nat → Option Int32) : ∀ k, cn f k ≤ k
  | 0 => Nat.le_refl _
  | k + 1 => by
    have := cn_le f k
    rw [cn]
    split <;> omega
/-- the fold and the count agree -/
theorem fo_cn {f : Nat → Option Int32} : ∀ k, (∀ s c, s < k → f s = some c → bd 0 999999999 c) → (cn f k = 0 → fo f 0 0 k (1000000000, 0) = (1000000000, 0)) ∧ (cn f k ≠ 0 → bd 0 999999999 (fo f 0 0 k (1000000000, 0)).1)
  | 0, _ => ⟨fun _ => rfl, fun h => absurd rfl h⟩
  | k + 1, h => by
    have ih := fo_cn (f := f) k (fun s c hs => h s c (by omega))
    rw [cn, fo]
    cases e : f k with
    | none => exact ih
    | some c =>
      have hc := h k c (by omega) e
      dsimp only
      refine ⟨fun q => absurd q (by omega), fun _ => ?_⟩
      rw [Int32.zero_add]
      split
      · exact hc
      · rename_i q
        by_cases z : cn f k = 0
        · rw [ih.1 z] at q
          exact absurd (by rw [i_lt]; have := hc.2; show c.toInt < 1000000000; omega) q
        · exact ih.2 z
/-- what the looks at the first k schedules leave -/
def LK (σ : Sg) (f : Nat → Option Int32) (k : Nat) : Prop := rI σ 19 31 = kI (cn f k) ∧ (cn f k ≠ 0 → rI σ 19 30 = (fo f 0 0 k (1000000000, 0)).1 ∧ rI σ 19 29 = kI (fo f 0 0 k (1000000000, 0)).2)
set_option maxRecDepth 100000 in
theorem sh_t : ∀ len, len < 7 → (1 : Int32) <<< (kI len &&& 31) = kI (2 ^ len) := by decide +kernel
theorem lo_loop {S O w : Vw} {p len : Nat} (hB : BS S) (hw : BR S w) (hO : BO O) (hp : p < 900000) (hl : len ≤ 6) : ∀ (n k : Nat) (σ : Sg), k + n = 65 → k ≤ 2 ^ len → MLk σ S O p → Rm σ w → (∀ j, j < 15 → rI σ 21 j = rI σ 20 j) → LK σ (vs S (tlO O p) (slP p) len 0 w) k →
    LK (f_X6_looks_l19 (kI len) n (kI k) σ) (vs S (tlO O p) (slP p) len 0 w) (2 ^ len) ∧ (∀ j, j < 15 → rI (f_X6_looks_l19 (kI len) n (kI k) σ) 20 j = rI σ 20 j)
  | 0, k, σ, h0, h1, hM, hR, h21, hL => absurd h0 (by
      have h6 : (2 : Nat) ^ len ≤ 2 ^ 6 := Nat.pow_le_pow_right (by decide) hl
      omega)
  | n + 1, k, σ, h0, h1, hM, hR, h21, hL => by
    have h6 : (2 : Nat) ^ len ≤ 2 ^ 6 := Nat.pow_le_pow_right (by decide) hl
    rw [f_X6_looks_l19, sh_t len (by omega)]
    by_cases c : 2 ^ len ≤ k
    · rw [if_pos (by rw [i_le, kI_int (by omega), kI_int (by omega)]; omega)]
      have e : k = 2 ^ len := by omega
      rw [← e]
      exact ⟨hL, fun _ _ => rfl⟩
    · rw [if_neg (by rw [i_le, kI_int (by omega), kI_int (by omega)]; omega)]
      have ha := ia_a hB hO hp hl (s := k) (by omega) hM hw hR
      have hb := lb_c (a := 21) (b := 20) (by decide) (f_X6_isAllowed (kI k) (kI len) σ).2
      have hml := ml_X6_laysBack 21 20 (Or.inl rfl) (f_X6_isAllowed (kI k) (kI len) σ).2
      have hcb := fun c => vs_b (tl := tlO O p) (sl := slP p) hB len 0 w k c (by omega) hw
      generalize (f_X6_isAllowed (kI k) (kI len) σ).1 = fl at ha ⊢
      generalize f_X6_laysBack 21 20 (f_X6_isAllowed (kI k) (kI len) σ).2 = τ at hb hml ⊢
      have h20 : ∀ j, j < 15 → rI τ 20 j = rI σ 20 j := fun j hj => by
        rw [hb.1 j hj, ha.1.1 21 j (by decide) (by decide) (by omega), h21 j hj]
      have h21' : ∀ j, j < 15 → rI τ 21 j = rI τ 20 j := fun j hj => by
        rw [h20 j hj, hb.2.1 21 j (by decide), ha.1.1 21 j (by decide) (by decide) (by omega), h21 j hj]
      have h19 : ∀ j, 29 ≤ j ∧ j ≤ 31 → rI τ 19 j = rI σ 19 j := fun j hj => by
        rw [hb.2.1 19 j (by decide), ha.1.1 19 j (by decide) (by decide) (by omega)]
      have h33 : rI τ 19 33 = rI (f_X6_isAllowed (kI k) (kI len) σ).2 19 33 := hb.2.1 19 33 (by decide)
      have hM2 : MLk τ S O p := (hM.ml ha.1.ml).ml hml
      have hR2 : Rm τ w := ⟨fun j hj => by rw [h20 _ (by omega), h20 _ (by omega), h20 _ (by omega)]; exact hR.1 j hj, fun j hj => by rw [h20 _ (by omega)]; exact hR.2 j hj⟩
      have hfc := fo_cn (f := vs S (tlO O p) (slP p) len 0 w) k (fun s c hs he => (vs_b hB len 0 w s c (by omega) hw he).mono (by decide) (by omega))
      have go : ∀ τ', (∀ i j, ¬ (i = 19 ∧ 29 ≤ j ∧ j ≤ 31) → rI τ' i j = rI τ i j) → τ'.2 = τ.2 → LK τ' (vs S (tlO O p) (slP p) len 0 w) (k + 1) → LK (f_X6_looks_l19 (kI len) n (kI k + 1) τ') (vs S (tlO O p) (slP p) len 0 w) (2 ^ len) ∧ (∀ j, j < 15 → rI (f_X6_looks_l19 (kI len) n (kI k + 1) τ') 20 j = rI σ 20 j) := by
        intro τ' e1 e2 e3
        rw [kI_succ]
        have ih := lo_loop hB hw hO hp hl n (k + 1) τ' (by omega) (by omega) (hM2.ml ⟨fun i j a1 a2 a3 a4 => e1 i j (by omega), e2⟩) (hR2.of (fun j => e1 _ _ (by omega))) (fun j hj => by rw [e1 _ _ (by omega), e1 _ _ (by omega)]; exact h21' j hj) e3
        exact ⟨ih.1, fun j hj => (ih.2 j hj).trans ((e1 _ _ (by omega)).trans (h20 j hj))⟩
      have h31 : rI τ 19 31 = kI (cn (vs S (tlO O p) (slP p) len 0 w) k) := (h19 31 (by omega)).trans hL.1
      have ha2 := ha.2
      generalize hf : vs S (tlO O p) (slP p) len 0 w = f at *
      cases e : f k with
      | none =>
        rw [e] at ha2
        rw [if_pos ha2]
        refine go _ (fun i j hij => rI_ne (by omega)) rfl ⟨?_, fun hz => ?_⟩
        · rw [rI_eq, h31, Int32.add_zero, cn, e]
        · rw [cn, e] at hz
          rw [rI_ne (by omega), rI_ne (by omega), h19 30 (by omega), h19 29 (by omega), fo, e]
          exact hL.2 hz
      | some c =>
        rw [e] at ha2
        have hc := hcb c e
        rw [if_neg ha2.1, h31]
        have e33 : rI τ 19 33 = c := h33.trans ha2.2
        have ecn : cn f (k + 1) = cn f k + 1 := by rw [cn, e]
        by_cases z : cn f k = 0
        · rw [if_pos (by rw [z]; rfl)]
          refine go _ (fun i j hij => by rw [rI_ne (by omega), rI_ne (by omega), rI_ne (by omega)]) rfl ⟨?_, fun _ => ?_⟩
          · rw [rI_eq, ecn]
            first | rw [kI_succ] | (rw [show (1 : Int32) = kI 1 from rfl, kI_a])
          · have e3 : fo f 0 0 (k + 1) (1000000000, 0) = (c, k) := by
              rw [fo, e]
              dsimp only
              rw [hfc.1 z, Int32.zero_add, if_pos (by rw [i_lt]; have := hc.2; show c.toInt < 1000000000; omega), Nat.zero_add]
            rw [e3, rI_ne (by omega), rI_eq, rI_ne (by omega), rI_ne (by omega), rI_eq, e33]
            exact ⟨rfl, rfl⟩
        · rw [if_neg (by
            intro q
            have h1 := kI_int (k := cn f k) (by have := cn_le f k; omega)
            rw [q] at h1
            have : (0 : Int32).toInt = 0 := rfl
            omega)]
          have hL2 := hL.2 z
          rw [h19 30 (by omega), hL2.1, e33]
          have e3 : fo f 0 0 (k + 1) (1000000000, 0) = if c < (fo f 0 0 k (1000000000, 0)).1 then (c, k) else fo f 0 0 k (1000000000, 0) := by
            rw [fo, e]
            dsimp only
            rw [Int32.zero_add, Nat.zero_add]
          by_cases q : (fo f 0 0 k (1000000000, 0)).1 ≤ c
          · rw [if_pos q]
            have q2 : ¬ c < (fo f 0 0 k (1000000000, 0)).1 := by rw [i_lt]; rw [i_le] at q; omega
            rw [if_neg q2] at e3
            refine go _ (fun i j hij => rI_ne (by omega)) rfl ⟨?_, fun _ => ?_⟩
            · rw [rI_eq, ecn, kI_succ]
            · rw [rI_ne (by omega), rI_ne (by omega), h19 30 (by omega), h19 29 (by omega), e3]
              exact hL2
          · rw [if_neg q]
            have q2 : c < (fo f 0 0 k (1000000000, 0)).1 := by rw [i_lt]; rw [i_le] at q; omega
            rw [if_pos q2] at e3
            refine go _ (fun i j hij => by rw [rI_ne (by omega), rI_ne (by omega), rI_ne (by omega)]) rfl ⟨?_, fun _ => ?_⟩
            · rw [rI_eq, ecn, kI_succ]
            · rw [e3, rI_ne (by omega), rI_eq, rI_ne (by omega), rI_ne (by omega), rI_eq]
              exact ⟨rfl, rfl⟩
/-- the model's looks leave count, least cost and first best -/
theorem lo_c {S O w : Vw} {p len : Nat} {σ : Sg} (hB : BS S) (hw : BR S w) (hO : BO O) (hp : p < 900000) (hl : len ≤ 6) (hM : MLk σ S O p) (hR : Rm σ w) : LK (f_X6_looks (kI len) σ) (vs S (tlO O p) (slP p) len 0 w) (2 ^ len) ∧ Rm (f_X6_looks (kI len) σ) w := by
  have hb := lb_c (a := 20) (b := 21) (by decide) (sI σ 19 31 0)
  have hml := ml_X6_laysBack 20 21 (Or.inr rfl) (sI σ 19 31 0)
  have e20 : ∀ j, rI (f_X6_laysBack 20 21 (sI σ 19 31 0)) 20 j = rI σ 20 j := fun j => by rw [hb.2.1 20 j (by decide), rI_ne (by omega)]
  have h := lo_loop (w := w) hB hw hO hp hl 65 0 (f_X6_laysBack 20 21 (sI σ 19 31 0)) rfl (Nat.zero_le _) ((hM.ml (Ml.sI Ml.refl (by omega))).ml hml) (hR.of e20) (fun j hj => by rw [hb.1 j hj, rI_ne (by omega), e20]) ⟨by rw [hb.2.1 19 31 (by decide), rI_eq]; rfl, fun h => absurd rfl h⟩
  refine ⟨h.1, ?_⟩
  have e : ∀ j, j < 15 → rI (f_X6_looks (kI len) σ) 20 j = rI σ 20 j := fun j hj => (h.2 j hj).trans (e20 j)
  exact ⟨fun j hj => by rw [e _ (by omega), e _ (by omega), e _ (by omega)]; exact hR.1 j hj, fun j hj => by rw [e _ (by omega)]; exact hR.2 j hj⟩
