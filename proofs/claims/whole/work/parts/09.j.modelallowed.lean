/-- the model's settings, orders and half hour -/
def MLk (σ : Sg) (S O : Vw) (p : Nat) : Prop := Sm σ S ∧ Om σ O ∧ rI σ 19 12 = kI p
/-- what a look changes -/
def Mi (σ σ' : Sg) : Prop := (∀ i j, i ≠ 20 → i ≠ 30 → ¬ (i = 19 ∧ ((17 ≤ j ∧ j ≤ 21) ∨ j = 33)) → rI σ' i j = rI σ i j) ∧ σ'.2 = σ.2
theorem Mi.refl {σ : Sg} : Mi σ σ := ⟨fun _ _ _ _ _ => rfl, rfl⟩
theorem Mi.trans {a b c : Sg} (h : Mi a b) (k : Mi b c) : Mi a c := ⟨fun i j h1 h2 h3 => (k.1 i j h1 h2 h3).trans (h.1 i j h1 h2 h3), k.2.trans h.2⟩
theorem Mi.ml {a b : Sg} (h : Mi a b) : Ml a b := ⟨fun i j h1 h2 h3 h4 => h.1 i j h1 h3 (by omega), h.2⟩
theorem MLk.ml {a b : Sg} {S O : Vw} {p : Nat} (h : MLk a S O p) (f : Ml a b) : MLk b S O p := by
  refine ⟨h.1.ml f, ⟨?_, fun j hj => ?_⟩, ?_⟩
  · rw [f.1 _ _ (by decide) (by decide) (by decide) (by omega)]; exact h.2.1.1
  · rw [f.1 _ _ (by decide) (by decide) (by decide) (by omega), f.1 _ _ (by decide) (by decide) (by decide) (by omega)]; exact h.2.1.2 j hj
  · rw [f.1 _ _ (by decide) (by decide) (by decide) (by omega)]; exact h.2.2
theorem Rm.of {a b : Sg} {w : Vw} (h : Rm a w) (e : ∀ j, rI b 20 j = rI a 20 j) : Rm b w := ⟨fun j hj => by rw [e, e, e]; exact h.1 j hj, fun j hj => by rw [e]; exact h.2 j hj⟩
theorem al_0 {sch many : Int32} {f : Nat} {x : Int32} {τ : Sg} (hf : 0 < f) : f_X6_isAllowed_l10 sch many f x 0 τ = (0, τ) := by
  obtain ⟨f, rfl⟩ : ∃ q, f = q + 1 := ⟨f - 1, by omega⟩
  rw [f_X6_isAllowed_l10]
  split
  · rfl
  · rw [if_pos rfl]
theorem bitm {len k s : Nat} (hk : k < len) (hl : len ≤ 6) (hs : s < 64) : (kI s >>> (((kI len - 1) - kI k) &&& 31)) &&& 1 = kI (s / 2 ^ (len - 1 - k) % 2) := by
  rw [show (kI len - 1 : Int32) = kI len - kI 1 from rfl, kI_sub (by omega) (by omega), kI_sub (by omega) (by omega)]
  exact bit_t s hs _ (by omega)
/-- a half hour of a look -/
theorem ia_step {σ : Sg} {S O w : Vw} {p k : Nat} {b : Int32} (hM : MLk σ S O p) (hB : BS S) (hw : BR S w) (hR : Rm σ w) : (f_X6_goes (kI (slP p k)) b σ).1 = al S w b (slP p k) (nK S) ∧ Rm (sI (f_X6_goes (kI (slP p k)) b σ).2 19 33 (rI (f_X6_goes (kI (slP p k)) b σ).2 19 33 + rI (f_X6_goes (kI (slP p k)) b σ).2 19 19 * rI (f_X6_goes (kI (slP p k)) b σ).2 27 (kI (slP p k)).toNatClampNeg)) (nx S w b (slP p k)) ∧ Mi σ (sI (f_X6_goes (kI (slP p k)) b σ).2 19 33 (rI (f_X6_goes (kI (slP p k)) b σ).2 19 33 + rI (f_X6_goes (kI (slP p k)) b σ).2 19 19 * rI (f_X6_goes (kI (slP p k)) b σ).2 27 (kI (slP p k)).toNatClampNeg)) ∧ rI (sI (f_X6_goes (kI (slP p k)) b σ).2 19 33 (rI (f_X6_goes (kI (slP p k)) b σ).2 19 33 + rI (f_X6_goes (kI (slP p k)) b σ).2 19 19 * rI (f_X6_goes (kI (slP p k)) b σ).2 27 (kI (slP p k)).toNatClampNeg)) 19 33 = rI σ 19 33 + hE S w b * S 5 (slP p k) := by
  have hs : slP p k < 48 := Nat.mod_lt _ (by decide)
  have h := goes_m (on := b) hs hM.1 hB hw hR
  have hS := hM.1.ml (ml_X6_goes (kI (slP p k)) b σ)
  refine ⟨h.1, h.2.1.of (fun j => rI_ne (by omega)), ⟨fun i j h1 h2 h3 => ?_, h.2.2.2.2.2.2.2.2.2⟩, ?_⟩
  · rw [rI_ne (by omega)]; exact h.2.2.2.2.2.2.2.2.1 i j h1 h2 (by omega)
  · rw [rI_eq, h.2.2.2.2.1, h.2.2.2.2.2.2.2.2.1 19 33 (by decide) (by decide) (by omega), kI_nat (by omega), hS.2.2.2.2 _ hs]
theorem ia_c {S O : Vw} {p len s : Nat} (hB : BS S) (hO : BO O) (hp : p < 900000) (hl : len ≤ 6) (hs : s < 64) : ∀ (n k f : Nat) (σ : Sg) (w : Vw), k + n = len → n < f → MLk σ S O p → BR S w → Rm σ w → Mi σ (f_X6_isAllowed_l10 (kI s) (kI len) f (kI k) 1 σ).2 ∧ (match vs S (tlO O p) (slP p) n k w (s % 2 ^ n) with | none => (f_X6_isAllowed_l10 (kI s) (kI len) f (kI k) 1 σ).1 = 0 | some c => ¬ (f_X6_isAllowed_l10 (kI s) (kI len) f (kI k) 1 σ).1 = 0 ∧ rI (f_X6_isAllowed_l10 (kI s) (kI len) f (kI k) 1 σ).2 19 33 = rI σ 19 33 + c)
  | 0, k, f, σ, w, hk, hf, hM, hw, hR => by
    obtain ⟨f, rfl⟩ : ∃ q, f = q + 1 := ⟨f - 1, by omega⟩
    rw [f_X6_isAllowed_l10, if_pos (by rw [i_le, kI_int (by omega), kI_int (by omega)]; omega)]
    refine ⟨Mi.refl, ?_⟩
    rw [vs]
    exact ⟨(by decide : ¬ (1 : Int32) = 0), (Int32.add_zero _).symm⟩
  | n + 1, k, f, σ, w, hk, hf, hM, hw, hR => by
    obtain ⟨f, rfl⟩ : ∃ q, f = q + 1 := ⟨f - 1, by omega⟩
    have eb : len - 1 - k = n := by omega
    have hte := te_m (h := kI (p + k)) hM.2.1 hO
    have htv := te_v (h := kI (p + k)) hO
    have e12 : rI σ 19 12 + kI k = kI (p + k) := by rw [hM.2.2, kI_a]
    rw [f_X6_isAllowed_l10, if_neg (by rw [i_le, kI_int (by omega), kI_int (by omega)]; omega), if_neg (by decide), bitm (by omega) hl hs, eb, vs_bit, e12, kI_mod (by omega)]
    have key : ∀ b, b = kI (s / 2 ^ n % 2) → Mi σ (if (f_X6_goes (kI (slP p k)) b σ).1 = 0 then f_X6_isAllowed_l10 (kI s) (kI len) f (kI k + 1) 0 (sI (f_X6_goes (kI (slP p k)) b σ).2 19 33 (rI (f_X6_goes (kI (slP p k)) b σ).2 19 33 + rI (f_X6_goes (kI (slP p k)) b σ).2 19 19 * rI (f_X6_goes (kI (slP p k)) b σ).2 27 (kI (slP p k)).toNatClampNeg)) else f_X6_isAllowed_l10 (kI s) (kI len) f (kI k + 1) 1 (sI (f_X6_goes (kI (slP p k)) b σ).2 19 33 (rI (f_X6_goes (kI (slP p k)) b σ).2 19 33 + rI (f_X6_goes (kI (slP p k)) b σ).2 19 19 * rI (f_X6_goes (kI (slP p k)) b σ).2 27 (kI (slP p k)).toNatClampNeg))).2 ∧ (tlO O p k = -1 ∨ tlO O p k = b → match vb S (tlO O p) (slP p) k w b (fun w' => vs S (tlO O p) (slP p) n (k + 1) w' (s % 2 ^ n)) with | none => (if (f_X6_goes (kI (slP p k)) b σ).1 = 0 then f_X6_isAllowed_l10 (kI s) (kI len) f (kI k + 1) 0 (sI (f_X6_goes (kI (slP p k)) b σ).2 19 33 (rI (f_X6_goes (kI (slP p k)) b σ).2 19 33 + rI (f_X6_goes (kI (slP p k)) b σ).2 19 19 * rI (f_X6_goes (kI (slP p k)) b σ).2 27 (kI (slP p k)).toNatClampNeg)) else f_X6_isAllowed_l10 (kI s) (kI len) f (kI k + 1) 1 (sI (f_X6_goes (kI (slP p k)) b σ).2 19 33 (rI (f_X6_goes (kI (slP p k)) b σ).2 19 33 + rI (f_X6_goes (kI (slP p k)) b σ).2 19 19 * rI (f_X6_goes (kI (slP p k)) b σ).2 27 (kI (slP p k)).toNatClampNeg))).1 = 0 | some c => ¬ (if (f_X6_goes (kI (slP p k)) b σ).1 = 0 then f_X6_isAllowed_l10 (kI s) (kI len) f (kI k + 1) 0 (sI (f_X6_goes (kI (slP p k)) b σ).2 19 33 (rI (f_X6_goes (kI (slP p k)) b σ).2 19 33 + rI (f_X6_goes (kI (slP p k)) b σ).2 19 19 * rI (f_X6_goes (kI (slP p k)) b σ).2 27 (kI (slP p k)).toNatClampNeg)) else f_X6_isAllowed_l10 (kI s) (kI len) f (kI k + 1) 1 (sI (f_X6_goes (kI (slP p k)) b σ).2 19 33 (rI (f_X6_goes (kI (slP p k)) b σ).2 19 33 + rI (f_X6_goes (kI (slP p k)) b σ).2 19 19 * rI (f_X6_goes (kI (slP p k)) b σ).2 27 (kI (slP p k)).toNatClampNeg))).1 = 0 ∧ rI (if (f_X6_goes (kI (slP p k)) b σ).1 = 0 then f_X6_isAllowed_l10 (kI s) (kI len) f (kI k + 1) 0 (sI (f_X6_goes (kI (slP p k)) b σ).2 19 33 (rI (f_X6_goes (kI (slP p k)) b σ).2 19 33 + rI (f_X6_goes (kI (slP p k)) b σ).2 19 19 * rI (f_X6_goes (kI (slP p k)) b σ).2 27 (kI (slP p k)).toNatClampNeg)) else f_X6_isAllowed_l10 (kI s) (kI len) f (kI k + 1) 1 (sI (f_X6_goes (kI (slP p k)) b σ).2 19 33 (rI (f_X6_goes (kI (slP p k)) b σ).2 19 33 + rI (f_X6_goes (kI (slP p k)) b σ).2 19 19 * rI (f_X6_goes (kI (slP p k)) b σ).2 27 (kI (slP p k)).toNatClampNeg))).2 19 33 = rI σ 19 33 + c) := by
      intro b hb
      have hg := ia_step (k := k) (b := b) hM hB hw hR
      generalize sI (f_X6_goes (kI (slP p k)) b σ).2 19 33 (rI (f_X6_goes (kI (slP p k)) b σ).2 19 33 + rI (f_X6_goes (kI (slP p k)) b σ).2 19 19 * rI (f_X6_goes (kI (slP p k)) b σ).2 27 (kI (slP p k)).toNatClampNeg) = τ at hg ⊢
      rw [hg.1, al_0 (by omega), kI_succ]
      have h := ia_c hB hO hp hl hs n (k + 1) f τ _ (by omega) (by omega) (hM.ml hg.2.2.1.ml) (nx_b hB hw) hg.2.1
      by_cases c2 : al S w b (slP p k) (nK S) = 0
      · rw [if_pos c2]
        refine ⟨hg.2.2.1, fun c1 => ?_⟩
        unfold vb
        rw [if_pos c1, if_pos c2]
      · rw [if_neg c2]
        refine ⟨hg.2.2.1.trans h.1, fun c1 => ?_⟩
        unfold vb
        rw [if_pos c1, if_neg c2]
        have h2 := h.2
        dsimp only
        generalize vs S (tlO O p) (slP p) n (k + 1) (nx S w b (slP p k)) (s % 2 ^ n) = o at h2 ⊢
        cases o with
        | none => exact h2
        | some c => exact ⟨h2.1, by rw [h2.2, hg.2.2.2, Int32.add_assoc]⟩
    have bad : ∀ b (x : Int32), ¬ (tlO O p k = -1 ∨ tlO O p k = b) → Mi σ (f_X6_isAllowed_l10 (kI s) (kI len) f (kI k + 1) 0 (sI σ 19 33 x)).2 ∧ (match vb S (tlO O p) (slP p) k w b (fun w' => vs S (tlO O p) (slP p) n (k + 1) w' (s % 2 ^ n)) with | none => (f_X6_isAllowed_l10 (kI s) (kI len) f (kI k + 1) 0 (sI σ 19 33 x)).1 = 0 | some c => ¬ (f_X6_isAllowed_l10 (kI s) (kI len) f (kI k + 1) 0 (sI σ 19 33 x)).1 = 0 ∧ rI (f_X6_isAllowed_l10 (kI s) (kI len) f (kI k + 1) 0 (sI σ 19 33 x)).2 19 33 = rI σ 19 33 + c) := by
      intro b x hn
      rw [al_0 (by omega)]
      unfold vb
      rw [if_neg hn]
      exact ⟨⟨fun i j h1 h2 h3 => rI_ne (by omega), rfl⟩, rfl⟩
    rcases bit_01 s n with hb | hb
    · rw [hb, if_neg (by decide)]
      have hk0 := key 0 hb.symm
      by_cases c : f_X6_orderAt (kI (p + k)) σ = -1
      · rw [if_pos c] at hte ⊢
        exact ⟨hk0.1, hk0.2 (Or.inl hte.symm)⟩
      · rw [if_neg c] at hte ⊢
        by_cases c2 : rI σ 29 (f_X6_orderAt (kI (p + k)) σ).toNatClampNeg = 0
        · rw [if_pos c2]
          exact ⟨hk0.1, hk0.2 (Or.inr (hte.symm.trans c2))⟩
        · rw [if_neg c2]
          refine bad 0 _ ?_
          rintro (q | q)
          · exact absurd (hte.trans q) (by
              intro q2
              have h3 := fa_m (h := kI (p + k)) hM.2.1 hO
              rcases fa_x (h := kI (p + k)) hO with e | ⟨j, hj, e, _⟩
              · exact c (h3.trans e)
              · rw [h3, e, kI_nat (by have := nO_i hO; omega), (hM.2.1.2 j (by have := nO_i hO; omega)).2] at q2
                rcases hO.2 j with z | z <;> rw [z] at q2 <;> exact absurd q2 (by decide))
          · exact c2 (hte.trans q)
    · rw [hb, if_pos rfl]
      have hk0 := key 1 hb.symm
      by_cases c : f_X6_orderAt (kI (p + k)) σ = -1
      · rw [if_pos c] at hte ⊢
        exact ⟨hk0.1, hk0.2 (Or.inl hte.symm)⟩
      · rw [if_neg c] at hte ⊢
        by_cases c2 : rI σ 29 (f_X6_orderAt (kI (p + k)) σ).toNatClampNeg = 1
        · rw [if_pos c2]
          exact ⟨hk0.1, hk0.2 (Or.inr (hte.symm.trans c2))⟩
        · rw [if_neg c2]
          refine bad 1 _ ?_
          rintro (q | q)
          · exact absurd (hte.trans q) (by
              intro q2
              have h3 := fa_m (h := kI (p + k)) hM.2.1 hO
              rcases fa_x (h := kI (p + k)) hO with e | ⟨j, hj, e, _⟩
              · exact c (h3.trans e)
              · rw [h3, e, kI_nat (by have := nO_i hO; omega), (hM.2.1.2 j (by have := nO_i hO; omega)).2] at q2
                rcases hO.2 j with z | z <;> rw [z] at q2 <;> exact absurd q2 (by decide))
          · exact c2 (hte.trans q)
