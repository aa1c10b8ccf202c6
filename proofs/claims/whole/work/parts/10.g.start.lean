/-- the numbers of the first world -/
def s0I (i : Nat) : Nat → Int32 := if i = 0 then (fun j => if j = 5 then 4 else 0) else if i = 1 then (fun j => if j = 7 then 25 else if j = 8 then 40 else 0) else if i = 9 then (fun j => if j < 48 then 1 else 0) else if i = 19 then (fun j => if j = 10 then 25 else if j = 11 then 40 else if j = 13 then 4 else 0) else if i = 27 then pw 48 else fun _ => 0
def s0 : Sg := (s0I, fun _ _ => 0, fun _ _ => 0)
def adz (qm qn ql qd : Nat) (r r' : Nat → Nat) : Nat → Nat := fun i => ([qm, r 0, r 1, r 2, r 3, r 4, r 5, r 6, r 7, r 8, r 15, r 16, r 17, r 18, r 19, r 20, r 21, r 64, r 65, qn, r' 0, r' 1, r' 2, r' 3, r' 4, r' 5, r' 6, r' 7, r' 8, r' 9, r' 10, ql, qd, r 9, r 10, r 11, r 12, r 13, r 14, r 22, r 23, r 24, r 25, r 26, r 27, r 28, r 29, r 30, r 31, r 32, r 33, r 34, r 35, r 36, r 37, r 38, r 39, r 40, r 41, r 42, r 43, r 44, r 45, r 46, r 47, r 48, r 49, r 50, r 51, r 52, r 53, r 54, r 55, r 56, r 57, r 58, r 59, r 60, r 61, r 62, r 63] : List Nat).getD i 0
def gz : Nat → Nat := fun i => ([0, 1, 2, 3, 4, 5, 6, 7, 8, 9, 16, 17, 18, 19, 20, 21, 22, 65, 66, 67, 68, 69, 70, 71, 72, 73, 74, 75, 76, 77, 78, 79, 80, 10, 11, 12, 13, 14, 15, 23, 24, 25, 26, 27, 28, 29, 30, 31, 32, 33, 34, 35, 36, 37, 38, 39, 40, 41, 42, 43, 44, 45, 46, 47, 48, 49, 50, 51, 52, 53, 54, 55, 56, 57, 58, 59, 60, 61, 62, 63, 64] : List Nat).getD i 0
def gy : Nat → Nat := fun i => ([0, 1, 2, 3, 4, 5, 6, 7, 8, 9, 33, 34, 35, 36, 37, 38, 10, 11, 12, 13, 14, 15, 16, 39, 40, 41, 42, 43, 44, 45, 46, 47, 48, 49, 50, 51, 52, 53, 54, 55, 56, 57, 58, 59, 60, 61, 62, 63, 64, 65, 66, 67, 68, 69, 70, 71, 72, 73, 74, 75, 76, 77, 78, 79, 80, 17, 18, 19, 20, 21, 22, 23, 24, 25, 26, 27, 28, 29, 30, 31, 32] : List Nat).getD i 0
def FW (cy : Nat → ClassId) (qm qn ql qd : Nat) (r r' : Nat → Nat) : va_W := ((((qm, eX5 r) :: wX5 cy r) ++ (qn, eX6 r') :: wX6 cy r') ++ [(ql, .inl (cy 9, 1, .inr (.inl (fun _ => 0))))]) ++ [(qd, .inl (cy 10, 1, .inr (.inr (.inr (.inl (fun _ => 0))))))]
theorem o7_eq (f : Nat → Nat) : (fun j => if j < 7 then some (f j) else none) = o7 (f 0) (f 1) (f 2) (f 3) (f 4) (f 5) (f 6) := funext fun i => match i with
  | 0 => rfl
  | 1 => rfl
  | 2 => rfl
  | 3 => rfl
  | 4 => rfl
  | 5 => rfl
  | 6 => rfl
  | i + 7 => by
    rw [if_neg (by omega)]
    unfold o7 va_up
    rw [if_neg (by omega), if_neg (by omega), if_neg (by omega), if_neg (by omega), if_neg (by omega), if_neg (by omega), if_neg (by omega)]
theorem gz_y : ∀ i, i < 81 → gy (gz i) = i := by decide +kernel
set_option maxRecDepth 100000 in
theorem fw_at {cy : Nat → ClassId} {qm qn ql qd : Nat} {r r' : Nat → Nat} : ∀ k, k < 81 → (FW cy qm qn ql qd r r')[gz k]? = some (adz qm qn ql qd r r' k, enc (adz qm qn ql qd r r') cy s0 k)
  | 0, _ => rfl
  | 1, _ => rfl
  | 2, _ => rfl
  | 3, _ => rfl
  | 4, _ => rfl
  | 5, _ => by
    rw [enc_ra (ci := 12) (n := 3) rfl (by decide) rfl, o3_eq (fun j => adz qm qn ql qd r r' (ta 5 j))]
    rfl
  | 6, _ => rfl
  | 7, _ => rfl
  | 8, _ => rfl
  | 9, _ => rfl
  | 10, _ => rfl
  | 11, _ => rfl
  | 12, _ => rfl
  | 13, _ => rfl
  | 14, _ => by
    rw [enc_ra (ci := 11) (n := 7) rfl (by decide) rfl, o7_eq (fun j => adz qm qn ql qd r r' (ta 14 j))]
    rfl
  | 15, _ => rfl
  | 16, _ => rfl
  | 17, _ => rfl
  | 18, _ => rfl
  | 19, _ => rfl
  | 20, _ => rfl
  | 21, _ => rfl
  | 22, _ => rfl
  | 23, _ => rfl
  | 24, _ => rfl
  | 25, _ => rfl
  | 26, _ => rfl
  | 27, _ => rfl
  | 28, _ => rfl
  | 29, _ => rfl
  | 30, _ => rfl
  | 31, _ => rfl
  | 32, _ => rfl
  | 33, _ => rfl
  | 34, _ => rfl
  | 35, _ => rfl
  | 36, _ => rfl
  | 37, _ => rfl
  | 38, _ => rfl
  | 39, _ => rfl
  | 40, _ => rfl
  | 41, _ => rfl
  | 42, _ => rfl
  | 43, _ => rfl
  | 44, _ => rfl
  | 45, _ => rfl
  | 46, _ => rfl
  | 47, _ => rfl
  | 48, _ => rfl
  | 49, _ => rfl
  | 50, _ => rfl
  | 51, _ => rfl
  | 52, _ => rfl
  | 53, _ => rfl
  | 54, _ => rfl
  | 55, _ => rfl
  | 56, _ => rfl
  | 57, _ => rfl
  | 58, _ => rfl
  | 59, _ => rfl
  | 60, _ => rfl
  | 61, _ => rfl
  | 62, _ => rfl
  | 63, _ => rfl
  | 64, _ => rfl
  | 65, _ => rfl
  | 66, _ => rfl
  | 67, _ => rfl
  | 68, _ => rfl
  | 69, _ => rfl
  | 70, _ => rfl
  | 71, _ => rfl
  | 72, _ => rfl
  | 73, _ => rfl
  | 74, _ => rfl
  | 75, _ => rfl
  | 76, _ => rfl
  | 77, _ => rfl
  | 78, _ => rfl
  | 79, _ => rfl
  | 80, _ => rfl
  | k + 81, h => absurd h (by omega)
theorem start_world {D : va_G} {cy : Nat → ClassId} {s : State} {H : Heap} {locs : List Loc} {qm qn ql qd : Nat} {r r' : Nat → Nat} (G : Gx D cy s.heap.size s) (hX : XF s) (hZ : ZF s.heap.size s) (P : Gw D s.heap.size s (FW cy qm qn ql qd r r') H locs) : Fx D (adz qm qn ql qd r r') cy s.heap.size s ∧ Wo D (adz qm qn ql qd r r') cy s.heap.size s s0 H locs := by
  have at' : ∀ (k : Nat) (q : Nat × va_E), (WD (adz qm qn ql qd r r') cy s0)[k]? = some q → (FW cy qm qn ql qd r r')[gz k]? = some q := by
    intro k q hq
    have hl : k < 81 := by
      have := (List.getElem?_eq_some_iff.mp hq).1
      rwa [WD_len] at this
    rw [WD_get hl] at hq
    rw [fw_at k hl]
    exact hq
  refine ⟨⟨G.1, ⟨fun i j hi hj h => ?_, fun i hi => ?_⟩, Nat.le_refl _, hX, hZ⟩, P.1.by gz at', P.2.2⟩
  · have e := P.2.1.1 (gz i) (gz j) _ _ (fw_at i hi) (fw_at j hj) h
    rw [← gz_y i hi, ← gz_y j hj, e]
  · exact P.2.1.2 (gz i) _ (fw_at i hi)
def S0 : Vw := fun i j => if i = 0 then (if j = 2 then 25 else if j = 3 then 40 else 0) else if i = 5 then (if j < 48 then 1 else 0) else 0
theorem inv_0 : Inv 0 s0 := by
  refine ⟨S0, fun _ _ => 0, fun _ _ => 0, 0, 4, fun _ => 0, fun _ => 0, ⟨⟨by unfold bd; decide, by unfold bd; decide, by unfold bd; decide, by unfold bd; decide, fun j => ⟨bd_0 (by decide) (by decide), bd_0 (by decide) (by decide), bd_0 (by decide) (by decide), bd_0 (by decide) (by decide), ?_⟩⟩, fun j => ⟨bd_0 (by decide) (by decide), bd_0 (by decide) (by decide), bd_0 (by decide) (by decide), ⟨by show 0 ≤ (0 : Int32).toInt; decide, by show (0 : Int32).toInt ≤ (0 : Int32).toInt; decide⟩, fun _ => rfl⟩, ⟨bd_0 (by decide) (by decide), fun _ => Or.inl rfl⟩, by decide, by decide, by decide⟩, ⟨⟨⟨rfl, rfl, rfl, rfl⟩, fun j hj => ⟨rfl, rfl⟩, fun j hj => rfl, fun t ht s hs => ?_, fun s hs => rfl⟩, ⟨fun j hj => ⟨rfl, rfl, rfl⟩, fun j hj => rfl⟩, ⟨rfl, fun j hj => ⟨rfl, rfl⟩⟩, rfl, rfl, ⟨by decide, fun j => ?_⟩, ⟨rfl, rfl, rfl, rfl, rfl, rfl, rfl, rfl⟩, fun j hj => rfl, fun j _ hj => rfl⟩, ⟨⟨⟨⟨rfl, rfl, rfl, rfl⟩, fun j hj => ⟨rfl, rfl⟩, fun j hj => rfl, fun j hj => rfl, fun s hs => pw_val 48 s⟩, ⟨rfl, fun j hj => ⟨rfl, rfl⟩⟩, rfl⟩, ⟨fun j hj => ⟨rfl, rfl, rfl⟩, fun j hj => rfl⟩, rfl, fun j => (show vp_nar .boolean (0 : Int32) = 0 by first | rfl | decide), ⟨rfl, rfl, rfl, rfl, rfl, rfl⟩, fun j hj => rfl⟩⟩
  · show bd 0 99 (if j < 48 then 1 else 0)
    split
    · unfold bd; decide
    · exact bd_0 (by decide) (by decide)
  · match t, ht with
    | 0, _ => rfl
    | 1, _ => rfl
    | 2, _ => rfl
    | t + 3, h => exact absurd h (by omega)
  · show vp_in 0 48
    unfold vp_in
    decide
