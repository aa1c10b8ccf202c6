def o3 (a b c : Nat) : Nat → Option Nat := fun i => match i with
  | 0 => some a
  | 1 => some b
  | 2 => some c
  | _ => none
theorem o3_eq (r : Nat → Nat) : (fun i => if i < 3 then some (r i) else none) = o3 (r 0) (r 1) (r 2) := funext fun i => match i with
  | 0 => rfl
  | 1 => rfl
  | 2 => rfl
  | i + 3 => if_neg (by omega)
def o7 (a b c d e f g : Nat) : Nat → Option Nat := va_up (va_up (va_up (va_up (va_up (va_up (va_up (fun _ => none) 0 (some a)) 1 (some b)) 2 (some c)) 3 (some d)) 4 (some e)) 5 (some f)) 6 (some g)
/-- ones in the first i places -/
def pw : Nat → Nat → Int32
  | 0 => fun _ => 0
  | i + 1 => upd (pw i) i 1
theorem pw_val : ∀ i j, pw i j = if j < i then 1 else 0
  | 0, j => by rw [if_neg (by omega)]; rfl
  | i + 1, j => by
    have h := pw_val i j
    unfold pw upd
    by_cases c : j = i
    · rw [if_pos c, if_pos (by omega)]
    · rw [if_neg c, h]
      by_cases c2 : j < i
      · rw [if_pos c2, if_pos (by omega)]
      · rw [if_neg c2, if_neg (by omega)]
theorem z_call {Z Y V : va_W} {k i : Nat} {e x : Nat × va_E} : (Z.set k e ++ Y).set (Z.length + i) x ++ V = Z.set k e ++ (Y.set i x ++ V) := by rw [z_put, List.append_assoc]
theorem z_mna {Z Y : va_W} {k a : Nat} {cA cB : ClassId} {e : Nat × va_E} {r : Nat → Nat} {f : va_E} : ((Z.set k e ++ Y) ++ [(a, .inl (cA, 3, .inr (.inr (.inr (.inr (fun i => if i < 3 then some (r i) else none))))))]) ++ ((List.range 3).map r).map (fun a => (a, f)) = Z.set k e ++ (Y ++ [(a, .inl (cA, 3, .inr (.inr (.inr (.inr (o3 (r 0) (r 1) (r 2))))))), (r 0, f), (r 1, f), (r 2, f)]) := by
  rw [o3_eq, List.append_assoc, List.append_assoc]
  rfl
abbrev zX0 : List Value := [.null, .long 0, .long 0, .long 0, .long 0, .long 0, .long 0, .long 0, .long 0]
theorem dvX0 : ∀ j, j < 9 → defaultValue (tyX0 j) = vp_V zX0 j
  | 0, _ => rfl
  | 1, _ => rfl
  | 2, _ => rfl
  | 3, _ => rfl
  | 4, _ => rfl
  | 5, _ => rfl
  | 6, _ => rfl
  | 7, _ => rfl
  | 8, _ => rfl
  | j + 9, h => absurd h (by omega)
abbrev eX0 (r : Nat → Nat) : va_E := .inr (0, [.ref (r 0), .long 0, .long 0, .long 0, .long 0, .long 0, .long 0, .long 0, .long 0])
abbrev wX0 (cy : Nat → ClassId) (r : Nat → Nat) : va_W := [(r 0, .inl (cy 7, 3, .inl (fun _ => 0)))]
abbrev zX1 : List Value := [.null, .null, .int 0]
theorem dvX1 : ∀ j, j < 3 → defaultValue (tyX1 j) = vp_V zX1 j
  | 0, _ => rfl
  | 1, _ => rfl
  | 2, _ => rfl
  | j + 3, h => absurd h (by omega)
abbrev eX1 (r : Nat → Nat) : va_E := .inr (1, [.ref (r 0), .ref (r 1), .int 0])
abbrev wX1 (cy : Nat → ClassId) (r : Nat → Nat) : va_W := [(r 0, .inl (cy 7, 6, .inl (fun _ => 0))), (r 1, .inl (cy 7, 6, .inl (fun _ => 0)))]
abbrev zX2 : List Value := [.null, .null, .null, .null, .null, .int 0, .int 0, .int 0]
theorem dvX2 : ∀ j, j < 8 → defaultValue (tyX2 j) = vp_V zX2 j
  | 0, _ => rfl
  | 1, _ => rfl
  | 2, _ => rfl
  | 3, _ => rfl
  | 4, _ => rfl
  | 5, _ => rfl
  | 6, _ => rfl
  | 7, _ => rfl
  | j + 8, h => absurd h (by omega)
abbrev eX2 (a1 a2 : Nat) (r : Nat → Nat) : va_E := .inr (2, [.ref a1, .ref a2, .ref (r 0), .ref (r 1), .ref (r 2), .int 0, .int 0, .int 0])
abbrev wX2 (cy : Nat → ClassId) (r : Nat → Nat) : va_W := [(r 0, .inl (cy 11, 7, .inr (.inr (.inr (.inr (o7 (r 3) (r 9) (r 15) (r 21) (r 27) (r 33) (r 39))))))), (r 1, .inl (cy 7, 6, .inl (fun _ => 0))), (r 2, .inl (cy 7, 6, .inl (fun _ => 0))), (r 3, .inr (4, [.ref (r 4), .ref (r 5), .ref (r 6), .ref (r 7), .ref (r 8), .int 0, .int 0, .int 0, .int 0, .int 0, .int 0, .int 0, .int 0])), (r 4, .inl (cy 7, 4, .inl (fun _ => 0))), (r 5, .inl (cy 7, 4, .inl (fun _ => 0))), (r 6, .inl (cy 7, 4, .inl (fun _ => 0))), (r 7, .inl (cy 7, 3, .inl (fun _ => 0))), (r 8, .inl (cy 7, 3, .inl (fun _ => 0))), (r 9, .inr (4, [.ref (r 10), .ref (r 11), .ref (r 12), .ref (r 13), .ref (r 14), .int 0, .int 0, .int 0, .int 0, .int 0, .int 0, .int 0, .int 0])), (r 10, .inl (cy 7, 4, .inl (fun _ => 0))), (r 11, .inl (cy 7, 4, .inl (fun _ => 0))), (r 12, .inl (cy 7, 4, .inl (fun _ => 0))), (r 13, .inl (cy 7, 3, .inl (fun _ => 0))), (r 14, .inl (cy 7, 3, .inl (fun _ => 0))), (r 15, .inr (4, [.ref (r 16), .ref (r 17), .ref (r 18), .ref (r 19), .ref (r 20), .int 0, .int 0, .int 0, .int 0, .int 0, .int 0, .int 0, .int 0])), (r 16, .inl (cy 7, 4, .inl (fun _ => 0))), (r 17, .inl (cy 7, 4, .inl (fun _ => 0))), (r 18, .inl (cy 7, 4, .inl (fun _ => 0))), (r 19, .inl (cy 7, 3, .inl (fun _ => 0))), (r 20, .inl (cy 7, 3, .inl (fun _ => 0))), (r 21, .inr (4, [.ref (r 22), .ref (r 23), .ref (r 24), .ref (r 25), .ref (r 26), .int 0, .int 0, .int 0, .int 0, .int 0, .int 0, .int 0, .int 0])), (r 22, .inl (cy 7, 4, .inl (fun _ => 0))), (r 23, .inl (cy 7, 4, .inl (fun _ => 0))), (r 24, .inl (cy 7, 4, .inl (fun _ => 0))), (r 25, .inl (cy 7, 3, .inl (fun _ => 0))), (r 26, .inl (cy 7, 3, .inl (fun _ => 0))), (r 27, .inr (4, [.ref (r 28), .ref (r 29), .ref (r 30), .ref (r 31), .ref (r 32), .int 0, .int 0, .int 0, .int 0, .int 0, .int 0, .int 0, .int 0])), (r 28, .inl (cy 7, 4, .inl (fun _ => 0))), (r 29, .inl (cy 7, 4, .inl (fun _ => 0))), (r 30, .inl (cy 7, 4, .inl (fun _ => 0))), (r 31, .inl (cy 7, 3, .inl (fun _ => 0))), (r 32, .inl (cy 7, 3, .inl (fun _ => 0))), (r 33, .inr (4, [.ref (r 34), .ref (r 35), .ref (r 36), .ref (r 37), .ref (r 38), .int 0, .int 0, .int 0, .int 0, .int 0, .int 0, .int 0, .int 0])), (r 34, .inl (cy 7, 4, .inl (fun _ => 0))), (r 35, .inl (cy 7, 4, .inl (fun _ => 0))), (r 36, .inl (cy 7, 4, .inl (fun _ => 0))), (r 37, .inl (cy 7, 3, .inl (fun _ => 0))), (r 38, .inl (cy 7, 3, .inl (fun _ => 0))), (r 39, .inr (4, [.ref (r 40), .ref (r 41), .ref (r 42), .ref (r 43), .ref (r 44), .int 0, .int 0, .int 0, .int 0, .int 0, .int 0, .int 0, .int 0])), (r 40, .inl (cy 7, 4, .inl (fun _ => 0))), (r 41, .inl (cy 7, 4, .inl (fun _ => 0))), (r 42, .inl (cy 7, 4, .inl (fun _ => 0))), (r 43, .inl (cy 7, 3, .inl (fun _ => 0))), (r 44, .inl (cy 7, 3, .inl (fun _ => 0)))]
abbrev zX3 : List Value := [.null, .null, .null, .null, .null, .int 0, .int 0, .int 0, .int 0]
theorem dvX3 : ∀ j, j < 9 → defaultValue (tyX3 j) = vp_V zX3 j
  | 0, _ => rfl
  | 1, _ => rfl
  | 2, _ => rfl
  | 3, _ => rfl
  | 4, _ => rfl
  | 5, _ => rfl
  | 6, _ => rfl
  | 7, _ => rfl
  | 8, _ => rfl
  | j + 9, h => absurd h (by omega)
abbrev eX3 (r : Nat → Nat) : va_E := .inr (3, [.ref (r 0), .ref (r 1), .ref (r 2), .ref (r 3), .ref (r 7), .int 0, .int 0, .int 25, .int 40])
abbrev wX3 (cy : Nat → ClassId) (r : Nat → Nat) : va_W := [(r 0, .inl (cy 7, 4, .inl (fun _ => 0))), (r 1, .inl (cy 7, 4, .inl (fun _ => 0))), (r 2, .inl (cy 7, 3, .inl (fun _ => 0))), (r 3, .inl (cy 12, 3, .inr (.inr (.inr (.inr (o3 (r 4) (r 5) (r 6))))))), (r 4, .inl (cy 7, 48, .inl (fun _ => 0))), (r 5, .inl (cy 7, 48, .inl (fun _ => 0))), (r 6, .inl (cy 7, 48, .inl (fun _ => 0))), (r 7, .inl (cy 7, 48, .inl (fun j => if j < 48 then 1 else 0)))]
abbrev zX4 : List Value := [.null, .null, .null, .null, .null, .int 0, .int 0, .int 0, .int 0, .int 0, .int 0, .int 0, .int 0]
theorem dvX4 : ∀ j, j < 13 → defaultValue (tyX4 j) = vp_V zX4 j
  | 0, _ => rfl
  | 1, _ => rfl
  | 2, _ => rfl
  | 3, _ => rfl
  | 4, _ => rfl
  | 5, _ => rfl
  | 6, _ => rfl
  | 7, _ => rfl
  | 8, _ => rfl
  | 9, _ => rfl
  | 10, _ => rfl
  | 11, _ => rfl
  | 12, _ => rfl
  | j + 13, h => absurd h (by omega)
abbrev eX4 (r : Nat → Nat) : va_E := .inr (4, [.ref (r 0), .ref (r 1), .ref (r 2), .ref (r 3), .ref (r 4), .int 0, .int 0, .int 0, .int 0, .int 0, .int 0, .int 0, .int 0])
abbrev wX4 (cy : Nat → ClassId) (r : Nat → Nat) : va_W := [(r 0, .inl (cy 7, 4, .inl (fun _ => 0))), (r 1, .inl (cy 7, 4, .inl (fun _ => 0))), (r 2, .inl (cy 7, 4, .inl (fun _ => 0))), (r 3, .inl (cy 7, 3, .inl (fun _ => 0))), (r 4, .inl (cy 7, 3, .inl (fun _ => 0)))]
abbrev zX6 : List Value := [.null, .null, .null, .null, .int 0, .null, .null, .null, .int 0, .null, .int 0, .int 0, .int 0, .int 0, .null, .null, .int 0, .int 0, .int 0, .int 0, .int 0, .int 0, .null, .long 0, .long 0, .long 0, .long 0, .long 0, .long 0, .int 0, .int 0, .int 0, .int 0, .int 0]
theorem dvX6 : ∀ j, j < 34 → defaultValue (tyX6 j) = vp_V zX6 j
  | 0, _ => rfl
  | 1, _ => rfl
  | 2, _ => rfl
  | 3, _ => rfl
  | 4, _ => rfl
  | 5, _ => rfl
  | 6, _ => rfl
  | 7, _ => rfl
  | 8, _ => rfl
  | 9, _ => rfl
  | 10, _ => rfl
  | 11, _ => rfl
  | 12, _ => rfl
  | 13, _ => rfl
  | 14, _ => rfl
  | 15, _ => rfl
  | 16, _ => rfl
  | 17, _ => rfl
  | 18, _ => rfl
  | 19, _ => rfl
  | 20, _ => rfl
  | 21, _ => rfl
  | 22, _ => rfl
  | 23, _ => rfl
  | 24, _ => rfl
  | 25, _ => rfl
  | 26, _ => rfl
  | 27, _ => rfl
  | 28, _ => rfl
  | 29, _ => rfl
  | 30, _ => rfl
  | 31, _ => rfl
  | 32, _ => rfl
  | 33, _ => rfl
  | j + 34, h => absurd h (by omega)
abbrev eX6 (r : Nat → Nat) : va_E := .inr (6, [.ref (r 0), .ref (r 1), .ref (r 2), .ref (r 3), .int 0, .ref (r 4), .ref (r 5), .ref (r 6), .int 0, .ref (r 7), .int 25, .int 40, .int 0, .int 4, .ref (r 8), .ref (r 9), .int 0, .int 0, .int 0, .int 0, .int 0, .int 0, .ref (r 10), .long 0, .long 0, .long 0, .long 0, .long 0, .long 0, .int 0, .int 0, .int 0, .int 0, .int 0])
abbrev wX6 (cy : Nat → ClassId) (r : Nat → Nat) : va_W := [(r 0, .inl (cy 7, 15, .inl (fun _ => 0))), (r 1, .inl (cy 7, 15, .inl (fun _ => 0))), (r 2, .inl (cy 7, 4, .inl (fun _ => 0))), (r 3, .inl (cy 7, 4, .inl (fun _ => 0))), (r 4, .inl (cy 7, 3, .inl (fun _ => 0))), (r 5, .inl (cy 7, 144, .inl (fun _ => 0))), (r 6, .inl (cy 7, 3, .inl (fun _ => 0))), (r 7, .inl (cy 7, 48, .inl (pw 48))), (r 8, .inl (cy 7, 6, .inl (fun _ => 0))), (r 9, .inl (cy 8, 6, .inl (fun _ => 0))), (r 10, .inl (cy 7, 3, .inl (fun _ => 0)))]
abbrev zX5 : List Value := [.null, .null, .null, .null, .null, .int 0, .int 0]
theorem dvX5 : ∀ j, j < 7 → defaultValue (tyX5 j) = vp_V zX5 j
  | 0, _ => rfl
  | 1, _ => rfl
  | 2, _ => rfl
  | 3, _ => rfl
  | 4, _ => rfl
  | 5, _ => rfl
  | 6, _ => rfl
  | j + 7, h => absurd h (by omega)
abbrev eX5 (r : Nat → Nat) : va_E := .inr (5, [.ref (r 0), .ref (r 9), .ref (r 15), .ref (r 18), .ref (r 64), .int 4, .int 0])
abbrev wX5 (cy : Nat → ClassId) (r : Nat → Nat) : va_W := [(r 0, .inr (3, [.ref (r 1), .ref (r 2), .ref (r 3), .ref (r 4), .ref (r 8), .int 0, .int 0, .int 25, .int 40])), (r 1, .inl (cy 7, 4, .inl (fun _ => 0))), (r 2, .inl (cy 7, 4, .inl (fun _ => 0))), (r 3, .inl (cy 7, 3, .inl (fun _ => 0))), (r 4, .inl (cy 12, 3, .inr (.inr (.inr (.inr (o3 (r 5) (r 6) (r 7))))))), (r 5, .inl (cy 7, 48, .inl (fun _ => 0))), (r 6, .inl (cy 7, 48, .inl (fun _ => 0))), (r 7, .inl (cy 7, 48, .inl (fun _ => 0))), (r 8, .inl (cy 7, 48, .inl (fun j => if j < 48 then 1 else 0))), (r 9, .inr (4, [.ref (r 10), .ref (r 11), .ref (r 12), .ref (r 13), .ref (r 14), .int 0, .int 0, .int 0, .int 0, .int 0, .int 0, .int 0, .int 0])), (r 10, .inl (cy 7, 4, .inl (fun _ => 0))), (r 11, .inl (cy 7, 4, .inl (fun _ => 0))), (r 12, .inl (cy 7, 4, .inl (fun _ => 0))), (r 13, .inl (cy 7, 3, .inl (fun _ => 0))), (r 14, .inl (cy 7, 3, .inl (fun _ => 0))), (r 15, .inr (1, [.ref (r 16), .ref (r 17), .int 0])), (r 16, .inl (cy 7, 6, .inl (fun _ => 0))), (r 17, .inl (cy 7, 6, .inl (fun _ => 0))), (r 18, .inr (2, [.ref (r 0), .ref (r 15), .ref (r 19), .ref (r 20), .ref (r 21), .int 0, .int 0, .int 0])), (r 19, .inl (cy 11, 7, .inr (.inr (.inr (.inr (o7 (r 22) (r 28) (r 34) (r 40) (r 46) (r 52) (r 58))))))), (r 20, .inl (cy 7, 6, .inl (fun _ => 0))), (r 21, .inl (cy 7, 6, .inl (fun _ => 0))), (r 22, .inr (4, [.ref (r 23), .ref (r 24), .ref (r 25), .ref (r 26), .ref (r 27), .int 0, .int 0, .int 0, .int 0, .int 0, .int 0, .int 0, .int 0])), (r 23, .inl (cy 7, 4, .inl (fun _ => 0))), (r 24, .inl (cy 7, 4, .inl (fun _ => 0))), (r 25, .inl (cy 7, 4, .inl (fun _ => 0))), (r 26, .inl (cy 7, 3, .inl (fun _ => 0))), (r 27, .inl (cy 7, 3, .inl (fun _ => 0))), (r 28, .inr (4, [.ref (r 29), .ref (r 30), .ref (r 31), .ref (r 32), .ref (r 33), .int 0, .int 0, .int 0, .int 0, .int 0, .int 0, .int 0, .int 0])), (r 29, .inl (cy 7, 4, .inl (fun _ => 0))), (r 30, .inl (cy 7, 4, .inl (fun _ => 0))), (r 31, .inl (cy 7, 4, .inl (fun _ => 0))), (r 32, .inl (cy 7, 3, .inl (fun _ => 0))), (r 33, .inl (cy 7, 3, .inl (fun _ => 0))), (r 34, .inr (4, [.ref (r 35), .ref (r 36), .ref (r 37), .ref (r 38), .ref (r 39), .int 0, .int 0, .int 0, .int 0, .int 0, .int 0, .int 0, .int 0])), (r 35, .inl (cy 7, 4, .inl (fun _ => 0))), (r 36, .inl (cy 7, 4, .inl (fun _ => 0))), (r 37, .inl (cy 7, 4, .inl (fun _ => 0))), (r 38, .inl (cy 7, 3, .inl (fun _ => 0))), (r 39, .inl (cy 7, 3, .inl (fun _ => 0))), (r 40, .inr (4, [.ref (r 41), .ref (r 42), .ref (r 43), .ref (r 44), .ref (r 45), .int 0, .int 0, .int 0, .int 0, .int 0, .int 0, .int 0, .int 0])), (r 41, .inl (cy 7, 4, .inl (fun _ => 0))), (r 42, .inl (cy 7, 4, .inl (fun _ => 0))), (r 43, .inl (cy 7, 4, .inl (fun _ => 0))), (r 44, .inl (cy 7, 3, .inl (fun _ => 0))), (r 45, .inl (cy 7, 3, .inl (fun _ => 0))), (r 46, .inr (4, [.ref (r 47), .ref (r 48), .ref (r 49), .ref (r 50), .ref (r 51), .int 0, .int 0, .int 0, .int 0, .int 0, .int 0, .int 0, .int 0])), (r 47, .inl (cy 7, 4, .inl (fun _ => 0))), (r 48, .inl (cy 7, 4, .inl (fun _ => 0))), (r 49, .inl (cy 7, 4, .inl (fun _ => 0))), (r 50, .inl (cy 7, 3, .inl (fun _ => 0))), (r 51, .inl (cy 7, 3, .inl (fun _ => 0))), (r 52, .inr (4, [.ref (r 53), .ref (r 54), .ref (r 55), .ref (r 56), .ref (r 57), .int 0, .int 0, .int 0, .int 0, .int 0, .int 0, .int 0, .int 0])), (r 53, .inl (cy 7, 4, .inl (fun _ => 0))), (r 54, .inl (cy 7, 4, .inl (fun _ => 0))), (r 55, .inl (cy 7, 4, .inl (fun _ => 0))), (r 56, .inl (cy 7, 3, .inl (fun _ => 0))), (r 57, .inl (cy 7, 3, .inl (fun _ => 0))), (r 58, .inr (4, [.ref (r 59), .ref (r 60), .ref (r 61), .ref (r 62), .ref (r 63), .int 0, .int 0, .int 0, .int 0, .int 0, .int 0, .int 0, .int 0])), (r 59, .inl (cy 7, 4, .inl (fun _ => 0))), (r 60, .inl (cy 7, 4, .inl (fun _ => 0))), (r 61, .inl (cy 7, 4, .inl (fun _ => 0))), (r 62, .inl (cy 7, 3, .inl (fun _ => 0))), (r 63, .inl (cy 7, 3, .inl (fun _ => 0))), (r 64, .inr (0, [.ref (r 65), .long 0, .long 0, .long 0, .long 0, .long 0, .long 0, .long 0, .long 0])), (r 65, .inl (cy 7, 3, .inl (fun _ => 0)))]
theorem nk_X4_init : nmOk yX4_init yX4_init.cls 0 := ⟨rfl, by decide +kernel, by decide +kernel, by decide +kernel⟩
theorem nk_X1_init : nmOk yX1_init yX1_init.cls 0 := ⟨rfl, by decide +kernel, by decide +kernel, by decide +kernel⟩
theorem nk_X0_init : nmOk yX0_init yX0_init.cls 0 := ⟨rfl, by decide +kernel, by decide +kernel, by decide +kernel⟩
theorem nk_X3_init : nmOk yX3_init yX3_init.cls 0 := ⟨rfl, by decide +kernel, by decide +kernel, by decide +kernel⟩
theorem nk_X2_init : nmOk yX2_init yX2_init.cls 2 := ⟨rfl, by decide +kernel, by decide +kernel, by decide +kernel⟩
theorem nk_X5_init : nmOk yX5_init yX5_init.cls 0 := ⟨rfl, by decide +kernel, by decide +kernel, by decide +kernel⟩
theorem nk_X6_init : nmOk yX6_init yX6_init.cls 0 := ⟨rfl, by decide +kernel, by decide +kernel, by decide +kernel⟩
theorem nk_J7_fill : nmOk yJ7_fill_53178 yJ7_fill_53178.cls 2 := ⟨rfl, by decide +kernel, by decide +kernel, by decide +kernel⟩
section NR9
variable {p : Program} {l : Launch} {e : Env} {R : Room} {s : State} {m : MethodId} {args : Array Value} {below : List Frame} {meth : Method} {c : Code} {H : Heap} {locs : List Loc} {cells slots : Nat} {Q : State → Prop}
variable {cc : ByteArray} {nL pc : Nat} {own : String} {ls : Array Slot} {rest : List Value} {D : va_G} {cy : Nat → ClassId} {ba : Nat} {Z : va_W}
theorem n_ist9 (B : CallFix p m c cc nL s args AW own) (G : Gx D cy ba s) (P : Gw D ba s Z H locs) {k a n j : Nat} {f : Nat → Int32} {x v : Int32} (he : Z[k]? = some (a, .inl (cy 7, n, .inl f))) (hin : vp_in x n) (hj : x.toNatClampNeg = j) (d : decode cc pc = .ok (.iastore, 1))
    (kk : ∀ (H : Heap) (locs : List Loc), Gw D ba s (Z.set k (a, .inl (cy 7, n, .inl (upd f j v)))) H locs → W p l e R s m args below meth c H locs cells slots Q (F0 m (pc + 1) ls rest)) : W p l e R s m args below meth c H locs cells slots Q (F0 m pc ls (.int v :: .int x :: .ref a :: rest)) := by
  subst hj
  exact n_ist B G P he hin d kk
theorem n_qst9 (B : CallFix p m c cc nL s args AW own) (G : Gx D cy ba s) (P : Gw D ba s Z H locs) {k kv a n v j : Nat} {f : Nat → Option Nat} {vs : List Value} {x : Int32} (he : Z[k]? = some (a, .inl (cy 11, n, .inr (.inr (.inr (.inr f)))))) (hv : Z[kv]? = some (v, .inr (4, vs))) (hin : vp_in x n) (hj : x.toNatClampNeg = j) (d : decode cc pc = .ok (.aastore, 1))
    (kk : ∀ (H : Heap) (locs : List Loc), Gw D ba s (Z.set k (a, .inl (cy 11, n, .inr (.inr (.inr (.inr (va_up f j (some v)))))))) H locs → W p l e R s m args below meth c H locs cells slots Q (F0 m (pc + 1) ls rest)) : W p l e R s m args below meth c H locs cells slots Q (F0 m pc ls (.ref v :: .int x :: .ref a :: rest)) := by
  subst hj
  exact n_qst B G P he hv hin d kk
end NR9
set_option maxHeartbeats 4000000 in
set_option maxRecDepth 100000 in
theorem cn_fill {D : va_G} {cy : Nat → ClassId} {ba : Nat} (l : Launch) {Z : va_W} {k a n : Nat} {f : Nat → Int32} (v : Int32) (hn : n < 100000) (hZ : Z[k]? = some (a, .inl (cy 7, n, .inl f))) : Cn D cy ba l 0 0 0 yJ7_fill_53178 cJ7_fill_53178 4 [.ref a, .int v] Z (fun _ => Z.set k (a, .inl (cy 7, n, .inl (fun j => if j < n then v else f j)))) := by
  refine Cn.of (by decide +kernel) (Nat.le_of_ble_eq_true rfl) ?_
  intro p e s m below meth c ls B G P hrt hlk hin hl
  have hx := B.1
  have hb := B.2.1
  have hk := z_len hZ
  have hl : lv_has ls 4 [(0, .ref a), (1, .int v)] := hl
  refine lv_iconst (v := 0) hx hb dJ7_fill_53178_0 (by decide) ?_
  refine lv_istore_n (lv' := [(2, .int 0), (0, .ref a), (1, .int v)]) hx hb dJ7_fill_53178_1 rfl hl (by decide) rfl (fun ls hl => ?_)
  refine lv_aload_n hx hb dJ7_fill_53178_2 rfl (lv_at hl 1 rfl) ?_
  refine n_alen B G P k hZ rfl dJ7_fill_53178_3 ?_
  refine lv_istore_n (lv' := [(3, .int (Int32.ofNat n)), (2, .int 0), (0, .ref a), (1, .int v)]) hx hb dJ7_fill_53178_4 rfl hl (by decide) rfl (fun ls hl => ?_)
  have en : (Int32.ofNat n).toInt = n := Int32.toInt_ofNat_of_lt (by omega)
  have lp : ∀ (t i : Nat) (H : Heap) (locs : List Loc) (ls : Array Slot), i + t = n → Gw D ba s (Z.set k (a, .inl (cy 7, n, .inl (fun j => if j < i then v else f j)))) H locs → lv_has ls 4 [(2, .int (nI i)), (3, .int (Int32.ofNat n)), (0, .ref a), (1, .int v)] → W p l e (rmK 0 0 0) s m [.ref a, .int v].toArray below meth c H locs 0 0 (MQ below (GnQ D ba (fun _ => Z.set k (a, .inl (cy 7, n, .inl (fun j => if j < n then v else f j))))) [.ref a, .int v].toArray s 0 0 (fun q => ba ≤ q)) (F0 m 5 ls []) := by
    intro t
    induction t with
    | zero =>
      intro i H locs ls hi P hl
      have e1 : i = n := hi
      subst e1
      refine lv_iload_n hx hb dJ7_fill_53178_5 rfl (lv_at hl 0 rfl) ?_
      refine lv_iload_n hx hb dJ7_fill_53178_6 rfl (lv_at hl 1 rfl) ?_
      refine lv_icmp_ge (tgt := 20) hx hb dJ7_fill_53178_7 (by decide) (fun _ => ?_) (fun c0 => absurd (Int32.le_refl _) c0)
      exact n_retv B P (fun _ => 0) rfl hrt hlk (Nat.le_refl _) (Nat.le_refl _) dJ7_fill_53178_20
    | succ t ih =>
      intro i H locs ls hi P hl
      have ei : (nI i).toInt = i := nI_toInt (by omega)
      refine lv_iload_n hx hb dJ7_fill_53178_5 rfl (lv_at hl 0 rfl) ?_
      refine lv_iload_n hx hb dJ7_fill_53178_6 rfl (lv_at hl 1 rfl) ?_
      refine lv_icmp_ge (tgt := 20) hx hb dJ7_fill_53178_7 (by decide) (fun c0 => absurd c0 (by rw [i_le, en, ei]; omega)) (fun _ => ?_)
      refine lv_aload_n hx hb dJ7_fill_53178_10 rfl (lv_at hl 2 rfl) ?_
      refine lv_iload_n hx hb dJ7_fill_53178_11 rfl (lv_at hl 0 rfl) ?_
      refine lv_iload_n hx hb dJ7_fill_53178_12 rfl (lv_at hl 3 rfl) ?_
      refine n_ist B G P (List.getElem?_set_self hk) (vp_in_nI (by omega) (by omega)) dJ7_fill_53178_13 (fun H locs P => ?_)
      have P := P.to (Z' := Z.set k (a, .inl (cy 7, n, .inl (fun j => if j < i + 1 then v else f j)))) (by
        rw [List.set_set, nI_clamp (by omega)]
        congr 6
        funext j
        unfold upd
        by_cases c1 : j = i
        · rw [if_pos c1, if_pos (by omega)]
        · rw [if_neg c1]
          show (if j < i then v else f j) = _
          by_cases c2 : j < i
          · rw [if_pos c2, if_pos (by omega)]
          · rw [if_neg c2, if_neg (by omega)])
      refine lv_iinc (v := nI (i + 1)) (lv' := [(2, .int (nI (i + 1))), (3, .int (Int32.ofNat n)), (0, .ref a), (1, .int v)]) hx hb dJ7_fill_53178_14 hl (k := 0) rfl (nI_1 i) (by decide) rfl (fun ls hl => ?_)
      refine lv_goto (tgt := 5) hx hb dJ7_fill_53178_17 (by decide) ?_
      exact ih (i + 1) H locs ls (by omega) P hl
  refine lp n 0 _ _ ls (by omega) (P.to ?_) (lv_sub hl [1, 0, 2, 3] rfl)
  have e0 : (fun j => if j < 0 then v else f j) = f := funext fun j => if_neg (Nat.not_lt_zero j)
  rw [e0]
  exact (z_self hZ).trans (List.append_nil _)
set_option maxHeartbeats 8000000 in
set_option maxRecDepth 100000 in
theorem cn_X4_init {D : va_G} {cy : Nat → ClassId} {ba : Nat} (l : Launch) {Z : va_W} {k h0 : Nat} (hZ : Z[k]? = some (h0, .inr (4, zX4))) : Cn D cy ba l 0 5 18 yX4_init cX4_init 1 [.ref h0] Z (fun r => Z.set k (h0, eX4 r) ++ wX4 cy r) := by
  refine Cn.of (by decide +kernel) (Nat.le_of_ble_eq_true rfl) ?_
  intro p e s m below meth c ls B G P hrt hlk hin hl
  have hx := B.1
  have hb := B.2.1
  have hk := z_len hZ
  have P := P.to (z_self hZ)
  have hl : lv_has ls 1 [(0, .ref h0)] := hl
  refine lv_aload_n hx hb dX4_init_0 rfl (lv_at hl 0 rfl) ?_
  refine W.objInit hx hb B.2.2.2.1 (B.2.2.2.2 _ q87) (B.2.2.2.2 _ q28) (B.2.2.2.2 _ q29) rfl (by rw [B.2.2.1]; exact hl.1) rfl dX4_init_1 (Nat.le_of_ble_eq_true rfl) (Nat.le_of_ble_eq_true rfl) ?_
  refine W.eq (g2 := F0 m 4 ls []) rfl ?_
  refine lv_aload_n hx hb dX4_init_4 rfl (lv_at hl 0 rfl) ?_
  refine lv_iconst (v := 4) hx hb dX4_init_5 (by decide) ?_
  refine n_newa B G P .int 0 q81 rfl rfl (N' := 4) (a0 := (4, .inl (fun _ => 0))) (fun _ => rfl) (by decide) (by decide) (Nat.le_of_ble_eq_true rfl) (Nat.le_of_ble_eq_true rfl) (Nat.le_of_ble_eq_true rfl) dX4_init_6 (fun q_1 H P => ?_)
  have P := P.to (List.append_assoc _ _ _)
  have P : Gw D ba s (Z.set k (h0, .inr (4, [.null, .null, .null, .null, .null, .int 0, .int 0, .int 0, .int 0, .int 0, .int 0, .int 0, .int 0])) ++ [(q_1, .inl (cy 7, 4, .inl (fun _ => 0)))]) H _ := P
  refine n_putF B G P (j := 0) (ty := .array .int) ok4 (z_at hk) (by decide) rfl hin rfl (by decide +kernel) rfl rfl (Nat.le_of_ble_eq_true rfl) q88 dX4_init_8 (fun H locs P => ?_)
  have P := P.to (z_set hk)
  have P : Gw D ba s (Z.set k (h0, .inr (4, [.ref q_1, .null, .null, .null, .null, .int 0, .int 0, .int 0, .int 0, .int 0, .int 0, .int 0, .int 0])) ++ [(q_1, .inl (cy 7, 4, .inl (fun _ => 0)))]) H _ := P
  refine lv_aload_n hx hb dX4_init_11 rfl (lv_at hl 0 rfl) ?_
  refine lv_iconst (v := 4) hx hb dX4_init_12 (by decide) ?_
  refine n_newa B G P .int 0 q81 rfl rfl (N' := 4) (a0 := (4, .inl (fun _ => 0))) (fun _ => rfl) (by decide) (by decide) (Nat.le_of_ble_eq_true rfl) (Nat.le_of_ble_eq_true rfl) (Nat.le_of_ble_eq_true rfl) dX4_init_13 (fun q_2 H P => ?_)
  have P := P.to (List.append_assoc _ _ _)
  have P : Gw D ba s (Z.set k (h0, .inr (4, [.ref q_1, .null, .null, .null, .null, .int 0, .int 0, .int 0, .int 0, .int 0, .int 0, .int 0, .int 0])) ++ [(q_1, .inl (cy 7, 4, .inl (fun _ => 0))), (q_2, .inl (cy 7, 4, .inl (fun _ => 0)))]) H _ := P
  refine n_putF B G P (j := 1) (ty := .array .int) ok4 (z_at hk) (by decide) rfl hin rfl (by decide +kernel) rfl rfl (Nat.le_of_ble_eq_true rfl) q90 dX4_init_15 (fun H locs P => ?_)
  have P := P.to (z_set hk)
  have P : Gw D ba s (Z.set k (h0, .inr (4, [.ref q_1, .ref q_2, .null, .null, .null, .int 0, .int 0, .int 0, .int 0, .int 0, .int 0, .int 0, .int 0])) ++ [(q_1, .inl (cy 7, 4, .inl (fun _ => 0))), (q_2, .inl (cy 7, 4, .inl (fun _ => 0)))]) H _ := P
  refine lv_aload_n hx hb dX4_init_18 rfl (lv_at hl 0 rfl) ?_
  refine lv_iconst (v := 4) hx hb dX4_init_19 (by decide) ?_
  refine n_newa B G P .int 0 q81 rfl rfl (N' := 4) (a0 := (4, .inl (fun _ => 0))) (fun _ => rfl) (by decide) (by decide) (Nat.le_of_ble_eq_true rfl) (Nat.le_of_ble_eq_true rfl) (Nat.le_of_ble_eq_true rfl) dX4_init_20 (fun q_3 H P => ?_)
  have P := P.to (List.append_assoc _ _ _)
  have P : Gw D ba s (Z.set k (h0, .inr (4, [.ref q_1, .ref q_2, .null, .null, .null, .int 0, .int 0, .int 0, .int 0, .int 0, .int 0, .int 0, .int 0])) ++ [(q_1, .inl (cy 7, 4, .inl (fun _ => 0))), (q_2, .inl (cy 7, 4, .inl (fun _ => 0))), (q_3, .inl (cy 7, 4, .inl (fun _ => 0)))]) H _ := P
  refine n_putF B G P (j := 2) (ty := .array .int) ok4 (z_at hk) (by decide) rfl hin rfl (by decide +kernel) rfl rfl (Nat.le_of_ble_eq_true rfl) q92 dX4_init_22 (fun H locs P => ?_)
  have P := P.to (z_set hk)
  have P : Gw D ba s (Z.set k (h0, .inr (4, [.ref q_1, .ref q_2, .ref q_3, .null, .null, .int 0, .int 0, .int 0, .int 0, .int 0, .int 0, .int 0, .int 0])) ++ [(q_1, .inl (cy 7, 4, .inl (fun _ => 0))), (q_2, .inl (cy 7, 4, .inl (fun _ => 0))), (q_3, .inl (cy 7, 4, .inl (fun _ => 0)))]) H _ := P
  refine lv_aload_n hx hb dX4_init_25 rfl (lv_at hl 0 rfl) ?_
  refine lv_iconst (v := 3) hx hb dX4_init_26 (by decide) ?_
  refine n_newa B G P .int 0 q81 rfl rfl (N' := 3) (a0 := (3, .inl (fun _ => 0))) (fun _ => rfl) (by decide) (by decide) (Nat.le_of_ble_eq_true rfl) (Nat.le_of_ble_eq_true rfl) (Nat.le_of_ble_eq_true rfl) dX4_init_27 (fun q_4 H P => ?_)
  have P := P.to (List.append_assoc _ _ _)
  have P : Gw D ba s (Z.set k (h0, .inr (4, [.ref q_1, .ref q_2, .ref q_3, .null, .null, .int 0, .int 0, .int 0, .int 0, .int 0, .int 0, .int 0, .int 0])) ++ [(q_1, .inl (cy 7, 4, .inl (fun _ => 0))), (q_2, .inl (cy 7, 4, .inl (fun _ => 0))), (q_3, .inl (cy 7, 4, .inl (fun _ => 0))), (q_4, .inl (cy 7, 3, .inl (fun _ => 0)))]) H _ := P
  refine n_putF B G P (j := 3) (ty := .array .int) ok4 (z_at hk) (by decide) rfl hin rfl (by decide +kernel) rfl rfl (Nat.le_of_ble_eq_true rfl) q94 dX4_init_29 (fun H locs P => ?_)
  have P := P.to (z_set hk)
  have P : Gw D ba s (Z.set k (h0, .inr (4, [.ref q_1, .ref q_2, .ref q_3, .ref q_4, .null, .int 0, .int 0, .int 0, .int 0, .int 0, .int 0, .int 0, .int 0])) ++ [(q_1, .inl (cy 7, 4, .inl (fun _ => 0))), (q_2, .inl (cy 7, 4, .inl (fun _ => 0))), (q_3, .inl (cy 7, 4, .inl (fun _ => 0))), (q_4, .inl (cy 7, 3, .inl (fun _ => 0)))]) H _ := P
  refine lv_aload_n hx hb dX4_init_32 rfl (lv_at hl 0 rfl) ?_
  refine lv_iconst (v := 3) hx hb dX4_init_33 (by decide) ?_
  refine n_newa B G P .int 0 q81 rfl rfl (N' := 3) (a0 := (3, .inl (fun _ => 0))) (fun _ => rfl) (by decide) (by decide) (Nat.le_of_ble_eq_true rfl) (Nat.le_of_ble_eq_true rfl) (Nat.le_of_ble_eq_true rfl) dX4_init_34 (fun q_5 H P => ?_)
  have P := P.to (List.append_assoc _ _ _)
  have P : Gw D ba s (Z.set k (h0, .inr (4, [.ref q_1, .ref q_2, .ref q_3, .ref q_4, .null, .int 0, .int 0, .int 0, .int 0, .int 0, .int 0, .int 0, .int 0])) ++ [(q_1, .inl (cy 7, 4, .inl (fun _ => 0))), (q_2, .inl (cy 7, 4, .inl (fun _ => 0))), (q_3, .inl (cy 7, 4, .inl (fun _ => 0))), (q_4, .inl (cy 7, 3, .inl (fun _ => 0))), (q_5, .inl (cy 7, 3, .inl (fun _ => 0)))]) H _ := P
  refine n_putF B G P (j := 4) (ty := .array .int) ok4 (z_at hk) (by decide) rfl hin rfl (by decide +kernel) rfl rfl (Nat.le_of_ble_eq_true rfl) q96 dX4_init_36 (fun H locs P => ?_)
  have P := P.to (z_set hk)
  have P : Gw D ba s (Z.set k (h0, .inr (4, [.ref q_1, .ref q_2, .ref q_3, .ref q_4, .ref q_5, .int 0, .int 0, .int 0, .int 0, .int 0, .int 0, .int 0, .int 0])) ++ [(q_1, .inl (cy 7, 4, .inl (fun _ => 0))), (q_2, .inl (cy 7, 4, .inl (fun _ => 0))), (q_3, .inl (cy 7, 4, .inl (fun _ => 0))), (q_4, .inl (cy 7, 3, .inl (fun _ => 0))), (q_5, .inl (cy 7, 3, .inl (fun _ => 0)))]) H _ := P
  exact n_retv B P (fun i => ([q_1, q_2, q_3, q_4, q_5] : List Nat).getD i 0) rfl hrt hlk (Nat.le_of_ble_eq_true rfl) (Nat.le_of_ble_eq_true rfl) dX4_init_39
set_option maxHeartbeats 8000000 in
set_option maxRecDepth 100000 in
theorem cn_X1_init {D : va_G} {cy : Nat → ClassId} {ba : Nat} (l : Launch) {Z : va_W} {k h0 : Nat} (hZ : Z[k]? = some (h0, .inr (1, zX1))) : Cn D cy ba l 0 2 12 yX1_init cX1_init 1 [.ref h0] Z (fun r => Z.set k (h0, eX1 r) ++ wX1 cy r) := by
  refine Cn.of (by decide +kernel) (Nat.le_of_ble_eq_true rfl) ?_
  intro p e s m below meth c ls B G P hrt hlk hin hl
  have hx := B.1
  have hb := B.2.1
  have hk := z_len hZ
  have P := P.to (z_self hZ)
  have hl : lv_has ls 1 [(0, .ref h0)] := hl
  refine lv_aload_n hx hb dX1_init_0 rfl (lv_at hl 0 rfl) ?_
  refine W.objInit hx hb B.2.2.2.1 (B.2.2.2.2 _ q148) (B.2.2.2.2 _ q28) (B.2.2.2.2 _ q29) rfl (by rw [B.2.2.1]; exact hl.1) rfl dX1_init_1 (Nat.le_of_ble_eq_true rfl) (Nat.le_of_ble_eq_true rfl) ?_
  refine W.eq (g2 := F0 m 4 ls []) rfl ?_
  refine lv_aload_n hx hb dX1_init_4 rfl (lv_at hl 0 rfl) ?_
  refine lv_bipush (v := 6) hx hb dX1_init_5 (by decide) ?_
  refine n_newa B G P .int 0 q81 rfl rfl (N' := 6) (a0 := (6, .inl (fun _ => 0))) (fun _ => rfl) (by decide) (by decide) (Nat.le_of_ble_eq_true rfl) (Nat.le_of_ble_eq_true rfl) (Nat.le_of_ble_eq_true rfl) dX1_init_7 (fun q_1 H P => ?_)
  have P := P.to (List.append_assoc _ _ _)
  have P : Gw D ba s (Z.set k (h0, .inr (1, [.null, .null, .int 0])) ++ [(q_1, .inl (cy 7, 6, .inl (fun _ => 0)))]) H _ := P
  refine n_putF B G P (j := 0) (ty := .array .int) ok1 (z_at hk) (by decide) rfl hin rfl (by decide +kernel) rfl rfl (Nat.le_of_ble_eq_true rfl) q149 dX1_init_9 (fun H locs P => ?_)
  have P := P.to (z_set hk)
  have P : Gw D ba s (Z.set k (h0, .inr (1, [.ref q_1, .null, .int 0])) ++ [(q_1, .inl (cy 7, 6, .inl (fun _ => 0)))]) H _ := P
  refine lv_aload_n hx hb dX1_init_12 rfl (lv_at hl 0 rfl) ?_
  refine lv_bipush (v := 6) hx hb dX1_init_13 (by decide) ?_
  refine n_newa B G P .int 0 q81 rfl rfl (N' := 6) (a0 := (6, .inl (fun _ => 0))) (fun _ => rfl) (by decide) (by decide) (Nat.le_of_ble_eq_true rfl) (Nat.le_of_ble_eq_true rfl) (Nat.le_of_ble_eq_true rfl) dX1_init_15 (fun q_2 H P => ?_)
  have P := P.to (List.append_assoc _ _ _)
  have P : Gw D ba s (Z.set k (h0, .inr (1, [.ref q_1, .null, .int 0])) ++ [(q_1, .inl (cy 7, 6, .inl (fun _ => 0))), (q_2, .inl (cy 7, 6, .inl (fun _ => 0)))]) H _ := P
  refine n_putF B G P (j := 1) (ty := .array .int) ok1 (z_at hk) (by decide) rfl hin rfl (by decide +kernel) rfl rfl (Nat.le_of_ble_eq_true rfl) q150 dX1_init_17 (fun H locs P => ?_)
  have P := P.to (z_set hk)
  have P : Gw D ba s (Z.set k (h0, .inr (1, [.ref q_1, .ref q_2, .int 0])) ++ [(q_1, .inl (cy 7, 6, .inl (fun _ => 0))), (q_2, .inl (cy 7, 6, .inl (fun _ => 0)))]) H _ := P
  exact n_retv B P (fun i => ([q_1, q_2] : List Nat).getD i 0) rfl hrt hlk (Nat.le_of_ble_eq_true rfl) (Nat.le_of_ble_eq_true rfl) dX1_init_20
set_option maxHeartbeats 8000000 in
set_option maxRecDepth 100000 in
theorem cn_X0_init {D : va_G} {cy : Nat → ClassId} {ba : Nat} (l : Launch) {Z : va_W} {k h0 : Nat} (hZ : Z[k]? = some (h0, .inr (0, zX0))) : Cn D cy ba l 0 1 3 yX0_init cX0_init 1 [.ref h0] Z (fun r => Z.set k (h0, eX0 r) ++ wX0 cy r) := by
  refine Cn.of (by decide +kernel) (Nat.le_of_ble_eq_true rfl) ?_
  intro p e s m below meth c ls B G P hrt hlk hin hl
  have hx := B.1
  have hb := B.2.1
  have hk := z_len hZ
  have P := P.to (z_self hZ)
  have hl : lv_has ls 1 [(0, .ref h0)] := hl
  refine lv_aload_n hx hb dX0_init_0 rfl (lv_at hl 0 rfl) ?_
  refine W.objInit hx hb B.2.2.2.1 (B.2.2.2.2 _ q201) (B.2.2.2.2 _ q28) (B.2.2.2.2 _ q29) rfl (by rw [B.2.2.1]; exact hl.1) rfl dX0_init_1 (Nat.le_of_ble_eq_true rfl) (Nat.le_of_ble_eq_true rfl) ?_
  refine W.eq (g2 := F0 m 4 ls []) rfl ?_
  refine lv_aload_n hx hb dX0_init_4 rfl (lv_at hl 0 rfl) ?_
  refine lv_iconst (v := 3) hx hb dX0_init_5 (by decide) ?_
  refine n_newa B G P .int 0 q81 rfl rfl (N' := 3) (a0 := (3, .inl (fun _ => 0))) (fun _ => rfl) (by decide) (by decide) (Nat.le_of_ble_eq_true rfl) (Nat.le_of_ble_eq_true rfl) (Nat.le_of_ble_eq_true rfl) dX0_init_6 (fun q_1 H P => ?_)
  have P := P.to (List.append_assoc _ _ _)
  have P : Gw D ba s (Z.set k (h0, .inr (0, [.null, .long 0, .long 0, .long 0, .long 0, .long 0, .long 0, .long 0, .long 0])) ++ [(q_1, .inl (cy 7, 3, .inl (fun _ => 0)))]) H _ := P
  refine n_putF B G P (j := 0) (ty := .array .int) ok0 (z_at hk) (by decide) rfl hin rfl (by decide +kernel) rfl rfl (Nat.le_of_ble_eq_true rfl) q202 dX0_init_8 (fun H locs P => ?_)
  have P := P.to (z_set hk)
  have P : Gw D ba s (Z.set k (h0, .inr (0, [.ref q_1, .long 0, .long 0, .long 0, .long 0, .long 0, .long 0, .long 0, .long 0])) ++ [(q_1, .inl (cy 7, 3, .inl (fun _ => 0)))]) H _ := P
  exact n_retv B P (fun i => ([q_1] : List Nat).getD i 0) rfl hrt hlk (Nat.le_of_ble_eq_true rfl) (Nat.le_of_ble_eq_true rfl) dX0_init_11
