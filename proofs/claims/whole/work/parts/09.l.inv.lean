/-- meters: 0 feed, 1 product, 2 spilled, 3 cost, 4 served, 5 demanded, 6 cleaned -/
abbrev Mt := Nat → Int64
/-- the class's side of the coupling -/
def IC (σ : Sg) (S w O : Vw) (p hz : Nat) (M : Mt) (sh : Nat → Int32) : Prop :=
  Sc σ S ∧ Rc 0 σ w ∧ Oc σ O ∧ rI σ 0 6 = kI p ∧ rI σ 0 5 = kI hz ∧ ((rI σ 13 5).toInt ≤ 6 ∧ ∀ j, vp_in (rI σ 16 j) 48) ∧ (rL σ 17 1 = M 0 ∧ rL σ 17 2 = M 1 ∧ rL σ 17 3 = M 0 - M 1 ∧ rL σ 17 4 = M 2 ∧ rL σ 17 5 = M 3 ∧ rL σ 17 6 = M 4 ∧ rL σ 17 7 = M 5 ∧ rL σ 17 8 = M 6) ∧ (∀ j, j < 3 → rI σ 18 j = sh j) ∧ ∀ j, nK S ≤ j → j < 3 → rI σ 38 j = 0
/-- the model's side -/
def IM (σ : Sg) (S w O : Vw) (p hz : Nat) (M : Mt) (sh : Nat → Int32) : Prop :=
  MLk σ S O p ∧ Rm σ w ∧ rI σ 19 13 = kI hz ∧ (∀ j, vp_nar .boolean (rI σ 29 j) = rI σ 29 j) ∧ (rL σ 19 23 = M 0 ∧ rL σ 19 24 = M 1 ∧ rL σ 19 25 = M 2 ∧ rL σ 19 28 = M 3 ∧ rL σ 19 26 = M 4 ∧ rL σ 19 27 = M 5) ∧ ∀ j, j < 3 → rI σ 26 j = sh j
/-- what both sides keep -/
def IB (S w O : Vw) (p hz : Nat) (M : Mt) (N : Nat) : Prop :=
  BS S ∧ BR S w ∧ BO O ∧ p ≤ N ∧ (1 ≤ hz ∧ hz ≤ 6) ∧ M 1 = M 4 + M 6 + Int64.ofInt (pz (fun k => (w 3 k).toInt) (nK S)) + M 2
def Inv (N : Nat) (σ : Sg) : Prop := ∃ S w O p hz M sh, IB S w O p hz M N ∧ IC σ S w O p hz M sh ∧ IM σ S w O p hz M sh
/-- the class's cells stay, the model's cells stay -/
def Cc (σ σ' : Sg) : Prop := (∀ k j, k < 19 ∨ (33 ≤ k ∧ k ≤ 38) → rI σ' k j = rI σ k j) ∧ ∀ j, rL σ' 17 j = rL σ 17 j
def Mc (σ σ' : Sg) : Prop := (∀ k j, 19 ≤ k ∧ k ≤ 30 → rI σ' k j = rI σ k j) ∧ ∀ j, rL σ' 19 j = rL σ 19 j
theorem Cc.refl {σ : Sg} : Cc σ σ := ⟨fun _ _ _ => rfl, fun _ => rfl⟩
theorem Mc.refl {σ : Sg} : Mc σ σ := ⟨fun _ _ _ => rfl, fun _ => rfl⟩
theorem Cc.trans {a b c : Sg} (h : Cc a b) (k : Cc b c) : Cc a c := ⟨fun i j q => (k.1 i j q).trans (h.1 i j q), fun j => (k.2 j).trans (h.2 j)⟩
theorem Mc.trans {a b c : Sg} (h : Mc a b) (k : Mc b c) : Mc a c := ⟨fun i j q => (k.1 i j q).trans (h.1 i j q), fun j => (k.2 j).trans (h.2 j)⟩
theorem IC.cc {a b : Sg} {S w O : Vw} {p hz : Nat} {M : Mt} {sh : Nat → Int32} (h : IC a S w O p hz M sh) (f : Cc a b) : IC b S w O p hz M sh := by
  obtain ⟨h1, h2, h3, h4, h5, h6, h7, h8, h9⟩ := h
  refine ⟨h1.of (fun k j hk => f.1 k j (by omega)), ⟨fun j hj => ?_, fun j hj => ?_⟩, h3.of (fun k j hk => f.1 k j (by omega)), ?_, ?_, ⟨?_, fun j => ?_⟩, ?_, fun j hj => ?_, fun j hj hk => ?_⟩
  · rw [f.1 (sid 0 + 1) _ (by decide), f.1 (sid 0 + 2) _ (by decide), f.1 (sid 0 + 3) _ (by decide)]; exact h2.1 j hj
  · rw [f.1 (sid 0 + 4) _ (by decide)]; exact h2.2 j hj
  · rw [f.1 _ _ (by decide)]; exact h4
  · rw [f.1 _ _ (by decide)]; exact h5
  · rw [f.1 _ _ (by decide)]; exact h6.1
  · rw [f.1 _ _ (by decide)]; exact h6.2 j
  · simp only [f.2]; exact h7
  · rw [f.1 _ _ (by decide)]; exact h8 j hj
  · rw [f.1 _ _ (by decide)]; exact h9 j hj hk
theorem IM.mc {a b : Sg} {S w O : Vw} {p hz : Nat} {M : Mt} {sh : Nat → Int32} (h : IM a S w O p hz M sh) (f : Mc a b) : IM b S w O p hz M sh := by
  obtain ⟨⟨⟨g1, g2, g3, g4, g5⟩, h2, h3⟩, h4, h5, h6, h7, h8⟩ := h
  refine ⟨⟨⟨?_, fun j hj => ?_, fun j hj => ?_, fun j hj => ?_, fun j hj => ?_⟩, ⟨?_, fun j hj => ?_⟩, ?_⟩, h4.of (fun j => f.1 _ _ (by decide)), ?_, fun j => ?_, ?_, fun j hj => ?_⟩
  · rw [f.1 _ _ (by decide), f.1 _ _ (by decide), f.1 _ _ (by decide), f.1 _ _ (by decide)]; exact g1
  · rw [f.1 _ _ (by decide), f.1 _ _ (by decide)]; exact g2 j hj
  · rw [f.1 _ _ (by decide)]; exact g3 j hj
  · rw [f.1 _ _ (by decide)]; exact g4 j hj
  · rw [f.1 _ _ (by decide)]; exact g5 j hj
  · rw [f.1 _ _ (by decide)]; exact h2.1
  · rw [f.1 _ _ (by decide), f.1 _ _ (by decide)]; exact h2.2 j hj
  · rw [f.1 _ _ (by decide)]; exact h3
  · rw [f.1 _ _ (by decide)]; exact h5
  · rw [f.1 _ _ (by decide)]; exact h6 j
  · simp only [f.2]; exact h7
  · rw [f.1 _ _ (by decide)]; exact h8 j hj
theorem IC.gc {σ : Sg} {S w O : Vw} {p hz N : Nat} {M : Mt} {sh : Nat → Int32} (h : IC σ S w O p hz M sh) (hI : IB S w O p hz M N) (hN : N ≤ 90000) : GC 99000 σ := by
  obtain ⟨h1, h2, h3, h4, h5, h6, h7, h8, h9⟩ := h
  have b1 := hI.1.1
  have b2 := hI.1.2.1
  have b3 := hI.2.2.1.1
  have b4 := hI.2.2.2.1
  unfold bd at b1 b2 b3
  have e : (rI σ 0 6).toInt = p := by rw [h4, kI_int (by omega)]
  refine ⟨⟨⟨by rw [h1.1.1]; omega, by rw [h1.1.2.1]; omega⟩, h6⟩, ⟨by rw [h3.1]; omega, by rw [h3.1]; omega⟩, ⟨by omega, by omega⟩, by rw [h1.1.1]; omega, by rw [h1.1.2.1]; omega⟩
theorem IM.gm {σ : Sg} {S w O : Vw} {p hz N : Nat} {M : Mt} {sh : Nat → Int32} (h : IM σ S w O p hz M sh) (hI : IB S w O p hz M N) (hN : N ≤ 90000) : GM 99000 σ := by
  obtain ⟨h1, h2, h3, h4, h5, h6⟩ := h
  have b1 := hI.1.1
  have b2 := hI.1.2.1
  have b3 := hI.2.2.1.1
  have b4 := hI.2.2.2.1
  have b5 := hI.1.2.2.2.1
  have b6 := hI.2.2.2.2.1
  unfold bd at b1 b2 b3 b5
  have e : (rI σ 19 12).toInt = p := by rw [h1.2.2, kI_int (by omega)]
  have e2 : (rI σ 19 13).toInt = hz := by rw [h3, kI_int (by omega)]
  refine ⟨⟨by rw [h1.1.1.1]; omega, by rw [h1.1.1.2.1]; omega, ?_⟩, ⟨⟨by rw [h1.2.1.1]; omega, by rw [h1.2.1.1]; omega⟩, h4⟩, ⟨by omega, by omega⟩, ⟨by omega, by omega⟩, by rw [h1.1.1.1]; omega, by rw [h1.1.1.2.1]; omega⟩
  rw [h1.1.1.2.2.2]
  intro q
  rw [q] at b5
  have : (0 : Int32).toInt = 0 := rfl
  omega
theorem IB.up {S w O : Vw} {p hz N N' : Nat} {M : Mt} (h : IB S w O p hz M N) (hN : N ≤ N') : IB S w O p hz M N' := ⟨h.1, h.2.1, h.2.2.1, by have := h.2.2.2.1; omega, h.2.2.2.2⟩
/-- from both sides, one after the other -/
theorem Inv.mk {N : Nat} {a b : Sg} {S w O : Vw} {p hz : Nat} {M : Mt} {sh : Nat → Int32} (hI : IB S w O p hz M N) (hC : IC a S w O p hz M sh) (f : Cc a b) (hM : IM b S w O p hz M sh) : Inv N b := ⟨S, w, O, p, hz, M, sh, hI, hC.cc f, hM⟩
