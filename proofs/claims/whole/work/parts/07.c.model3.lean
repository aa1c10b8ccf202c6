theorem nk_X6_laysBack : nmOk yX6_laysBack RX6 2 := ⟨rfl, by decide +kernel, by decide +kernel, by decide +kernel⟩
theorem nk_X6_isAllowed : nmOk yX6_isAllowed RX6 2 := ⟨rfl, by decide +kernel, by decide +kernel, by decide +kernel⟩
def f_X6_looks_l19 (many : Int32) : Nat → Int32 → Sg → Sg
  | 0, _, σ19 => σ19
  | n19 + 1, x2_19, σ19 => if (1 <<< (many &&& 31)) ≤ x2_19 then σ19 else (if (f_X6_isAllowed x2_19 many σ19).1 = 0 then (f_X6_looks_l19 many n19 (x2_19 + 1) (sI (f_X6_laysBack 21 20 ((f_X6_isAllowed x2_19 many σ19).2)) 19 31 ((rI (f_X6_laysBack 21 20 ((f_X6_isAllowed x2_19 many σ19).2)) 19 31) + 0))) else (if (rI (f_X6_laysBack 21 20 ((f_X6_isAllowed x2_19 many σ19).2)) 19 31) = 0 then (f_X6_looks_l19 many n19 (x2_19 + 1) (sI (sI (sI (f_X6_laysBack 21 20 ((f_X6_isAllowed x2_19 many σ19).2)) 19 29 x2_19) 19 30 (rI (f_X6_laysBack 21 20 ((f_X6_isAllowed x2_19 many σ19).2)) 19 33)) 19 31 ((rI (f_X6_laysBack 21 20 ((f_X6_isAllowed x2_19 many σ19).2)) 19 31) + 1))) else (if (rI (f_X6_laysBack 21 20 ((f_X6_isAllowed x2_19 many σ19).2)) 19 30) ≤ (rI (f_X6_laysBack 21 20 ((f_X6_isAllowed x2_19 many σ19).2)) 19 33) then (f_X6_looks_l19 many n19 (x2_19 + 1) (sI (f_X6_laysBack 21 20 ((f_X6_isAllowed x2_19 many σ19).2)) 19 31 ((rI (f_X6_laysBack 21 20 ((f_X6_isAllowed x2_19 many σ19).2)) 19 31) + 1))) else (f_X6_looks_l19 many n19 (x2_19 + 1) (sI (sI (sI (f_X6_laysBack 21 20 ((f_X6_isAllowed x2_19 many σ19).2)) 19 29 x2_19) 19 30 (rI (f_X6_laysBack 21 20 ((f_X6_isAllowed x2_19 many σ19).2)) 19 33)) 19 31 ((rI (f_X6_laysBack 21 20 ((f_X6_isAllowed x2_19 many σ19).2)) 19 31) + 1))))))
def f_X6_looks (many : Int32) (σ : Sg) : Sg := f_X6_looks_l19 many 65 0 (f_X6_laysBack 20 21 (sI σ 19 31 0))
set_option maxHeartbeats 4000000 in
set_option maxRecDepth 100000 in
theorem ct_X6_looks {D : va_G} {ad : Nat → Nat} {cy : Nat → ClassId} {ba : Nat} (l : Launch) (many : Int32) (σ : Sg) (hM : GM 100000 σ) (hm : 1 ≤ many.toInt ∧ many.toInt ≤ 6) : Ct D ad cy ba l 7 yX6_looks cX6_looks 4 none [.ref (ad 19), .int many] σ none (f_X6_looks many σ) := by
  generalize hE : f_X6_looks many σ = Z
  dsimp only [f_X6_looks] at hE
  refine Ct.of (by decide +kernel) (Nat.le_of_ble_eq_true rfl) ?_
  intro p e s m below meth c ls B F P hrt hlk hl
  have hx := B.1
  have hb := B.2.1
  have hl : lv_has ls 4 [(0, .ref (ad 19)), (1, .int many)] := hl
  refine lv_aload_n hx hb dX6_looks_0 rfl (lv_at hl 0 rfl) ?_
  refine lv_iconst (v := 0) hx hb dX6_looks_1 (by decide) ?_
  refine g_puti (k := 31) B F P ok6 (by decide) rfl rfl rfl (by decide) rfl (tyX6_ok 31 (by decide)) q845 dX6_looks_2 (fun H locs P => ?_)
  refine lv_aload_n hx hb dX6_looks_5 rfl (lv_at hl 0 rfl) ?_
  refine lv_aload_n hx hb dX6_looks_6 rfl (lv_at hl 0 rfl) ?_
  refine g_getr (k := 0) (t := 20) B F P ok6 (by decide) rfl rfl rfl (by decide) rfl q814 dX6_looks_7 ?_
  refine lv_aload_n hx hb dX6_looks_10 rfl (lv_at hl 0 rfl) ?_
  refine g_getr (k := 1) (t := 21) B F P ok6 (by decide) rfl rfl rfl (by decide) rfl q815 dX6_looks_11 ?_
  refine g_callV B F P (As := [.ref (ad 20), .ref (ad 21)]) (ct_X6_laysBack (D := D) (ad := ad) (cy := cy) (ba := ba) l 20 21 (sI σ 19 31 0) (by decide) rfl rfl (by decide) rfl rfl) ok6 (by decide) rfl q1067 q1069 qs25 q8 q1070 nk_X6_laysBack rfl ⟨(Nat.le_of_ble_eq_true rfl), (Nat.le_of_ble_eq_true rfl)⟩ hl.1 rfl (Nat.le_of_ble_eq_true rfl) dX6_looks_14 ⟨Nat.le_of_ble_eq_true rfl, Nat.le_of_ble_eq_true rfl⟩ (fun H locs P => ?_)
  refine lv_iconst (v := 0) hx hb dX6_looks_17 (by decide) ?_
  refine lv_istore_n (lv' := [(2, .int 0), (0, .ref (ad 19)), (1, .int many)]) hx hb dX6_looks_18 rfl hl (by decide) rfl (fun ls hl => ?_)
  have L19 : ∀ (n19 : Nat) (x2_19 : Int32) (σ19 : Sg), LI 64 n19 x2_19 → GM 100000 σ19 → f_X6_looks_l19 many n19 x2_19 σ19 = Z → ∀ (H : Heap) (locs : List Loc), Wo D ad cy ba s σ19 H locs → ∀ (ls : Array Slot), lv_has ls 4 [(2, .int x2_19), (0, .ref (ad 19)), (1, .int many)] → W p l e (rmK 7 0 0) s m ([.ref (ad 19), .int many] : List Value).toArray below meth c H locs 0 0 (MQ below (Qe D ad cy ba none Z) ([.ref (ad 19), .int many] : List Value).toArray s 0 0 (fun q => ba ≤ q)) (F0 m 19 ls []) := by
    clear hE P hl
    intro n19
    induction n19 with
    | zero => intro x2_19 σ19 hI19 hM19 hE; exact absurd hI19 LI.zero
    | succ n19 ih19 =>
      intro x2_19 σ19 hI19 hM19 hE H locs P ls hl
      dsimp only [f_X6_looks_l19] at hE
      refine lv_iload_n hx hb dX6_looks_19 rfl (lv_at hl 0 rfl) ?_
      refine lv_iconst (v := 1) hx hb dX6_looks_20 (by decide) ?_
      refine lv_iload_n hx hb dX6_looks_21 rfl (lv_at hl 2 rfl) ?_
      refine lv_ishl hx hb dX6_looks_22 ?_
      refine lv_icmp_ge (tgt := 104) hx hb dX6_looks_23 (by decide) (fun c23 => ?_) (fun c23 => ?_)
      · rw [if_pos c23] at hE
        exact g_retv B P rfl (by rw [← hE]) hrt hlk dX6_looks_104
      · rw [if_neg c23] at hE
        refine lv_aload_n hx hb dX6_looks_26 rfl (lv_at hl 1 rfl) ?_
        refine lv_iload_n hx hb dX6_looks_27 rfl (lv_at hl 0 rfl) ?_
        refine lv_iload_n hx hb dX6_looks_28 rfl (lv_at hl 2 rfl) ?_
        refine g_callV B F P (As := [.int x2_19, .int many]) (ct_X6_isAllowed (D := D) (ad := ad) (cy := cy) (ba := ba) l x2_19 many σ19 hM19 hm.2) ok6 (by decide) rfl q1071 q1073 qs26 q8 q1074 nk_X6_isAllowed rfl ⟨(Nat.le_of_ble_eq_true rfl), (Nat.le_of_ble_eq_true rfl)⟩ hl.1 rfl (Nat.le_of_ble_eq_true rfl) dX6_looks_29 ⟨Nat.le_of_ble_eq_true rfl, Nat.le_of_ble_eq_true rfl⟩ (fun H locs P => ?_)
        refine lv_istore_n (lv' := [(3, .int ((f_X6_isAllowed x2_19 many σ19).1)), (2, .int x2_19), (0, .ref (ad 19)), (1, .int many)]) hx hb dX6_looks_32 rfl hl (by decide) rfl (fun ls hl => ?_)
        refine lv_aload_n hx hb dX6_looks_33 rfl (lv_at hl 2 rfl) ?_
        refine lv_aload_n hx hb dX6_looks_34 rfl (lv_at hl 2 rfl) ?_
        refine g_getr (k := 1) (t := 21) B F P ok6 (by decide) rfl rfl rfl (by decide) rfl q815 dX6_looks_35 ?_
        refine lv_aload_n hx hb dX6_looks_38 rfl (lv_at hl 2 rfl) ?_
        refine g_getr (k := 0) (t := 20) B F P ok6 (by decide) rfl rfl rfl (by decide) rfl q814 dX6_looks_39 ?_
        refine g_callV B F P (As := [.ref (ad 21), .ref (ad 20)]) (ct_X6_laysBack (D := D) (ad := ad) (cy := cy) (ba := ba) l 21 20 ((f_X6_isAllowed x2_19 many σ19).2) (by decide) rfl rfl (by decide) rfl rfl) ok6 (by decide) rfl q1067 q1069 qs25 q8 q1070 nk_X6_laysBack rfl ⟨(Nat.le_of_ble_eq_true rfl), (Nat.le_of_ble_eq_true rfl)⟩ hl.1 rfl (Nat.le_of_ble_eq_true rfl) dX6_looks_42 ⟨Nat.le_of_ble_eq_true rfl, Nat.le_of_ble_eq_true rfl⟩ (fun H locs P => ?_)
        refine lv_iload_n hx hb dX6_looks_45 rfl (lv_at hl 0 rfl) ?_
        refine lv_if_eq (tgt := 80) hx hb dX6_looks_46 (by decide) (fun c46 => ?_) (fun c46 => ?_)
        · rw [if_pos c46] at hE
          refine lv_aload_n hx hb dX6_looks_80 rfl (lv_at hl 2 rfl) ?_
          refine lv_dup hx hb dX6_looks_81 rfl ?_
          refine g_geti (k := 31) B F P ok6 (by decide) rfl rfl rfl (by decide) q845 dX6_looks_82 ?_
          refine lv_iload_n hx hb dX6_looks_85 rfl (lv_at hl 0 rfl) ?_
          refine lv_if_eq (tgt := 93) hx hb dX6_looks_86 (by decide) (fun _ => ?_) (fun h9 => absurd c46 h9)
          refine lv_iconst (v := 0) hx hb dX6_looks_93 (by decide) ?_
          refine lv_iadd hx hb dX6_looks_94 ?_
          refine g_puti (k := 31) B F P ok6 (by decide) rfl rfl rfl (by decide) rfl (tyX6_ok 31 (by decide)) q845 dX6_looks_95 (fun H locs P => ?_)
          refine lv_iinc (v := (x2_19 + 1)) (lv' := [(2, .int (x2_19 + 1)), (3, .int ((f_X6_isAllowed x2_19 many σ19).1)), (0, .ref (ad 19)), (1, .int many)]) hx hb dX6_looks_98 hl (k := 1) rfl (by first | rfl | decide) (by decide) rfl (fun ls hl => ?_)
          refine lv_goto (tgt := 19) hx hb dX6_looks_101 (by decide) ?_
          exact ih19 (x2_19 + 1) (sI (f_X6_laysBack 21 20 ((f_X6_isAllowed x2_19 many σ19).2)) 19 31 ((rI (f_X6_laysBack 21 20 ((f_X6_isAllowed x2_19 many σ19).2)) 19 31) + 0)) (hI19.next c23 (shl_le' hm)) (((hM19.ml (ml_X6_isAllowed _ _ _)).ml (ml_X6_laysBack 21 20 (Or.inl rfl) _)).ml (by (repeat first | exact Ml.refl | refine Ml.sI ?_ (by omega)))) hE _ _ P _ (lv_sub hl [0, 2, 3] rfl)
        · rw [if_neg c46] at hE
          refine lv_aload_n hx hb dX6_looks_49 rfl (lv_at hl 2 rfl) ?_
          refine g_geti (k := 31) B F P ok6 (by decide) rfl rfl rfl (by decide) q845 dX6_looks_50 ?_
          refine lv_if_eq (tgt := 67) hx hb dX6_looks_53 (by decide) (fun c53 => ?_) (fun c53 => ?_)
          · rw [if_pos c53] at hE
            refine lv_aload_n hx hb dX6_looks_67 rfl (lv_at hl 2 rfl) ?_
            refine lv_iload_n hx hb dX6_looks_68 rfl (lv_at hl 1 rfl) ?_
            refine g_puti (k := 29) B F P ok6 (by decide) rfl rfl rfl (by decide) rfl (tyX6_ok 29 (by decide)) q843 dX6_looks_69 (fun H locs P => ?_)
            refine lv_aload_n hx hb dX6_looks_72 rfl (lv_at hl 2 rfl) ?_
            refine lv_aload_n hx hb dX6_looks_73 rfl (lv_at hl 2 rfl) ?_
            refine g_getiv (k := 33) (v := (rI (f_X6_laysBack 21 20 ((f_X6_isAllowed x2_19 many σ19).2)) 19 33)) B F P ok6 (by decide) rfl rfl rfl (by decide) q847 dX6_looks_74 rfl ?_
            refine g_puti (k := 30) B F P ok6 (by decide) rfl rfl rfl (by decide) rfl (tyX6_ok 30 (by decide)) q844 dX6_looks_77 (fun H locs P => ?_)
            refine lv_aload_n hx hb dX6_looks_80 rfl (lv_at hl 2 rfl) ?_
            refine lv_dup hx hb dX6_looks_81 rfl ?_
            refine g_getiv (k := 31) (v := (rI (f_X6_laysBack 21 20 ((f_X6_isAllowed x2_19 many σ19).2)) 19 31)) B F P ok6 (by decide) rfl rfl rfl (by decide) q845 dX6_looks_82 rfl ?_
            refine lv_iload_n hx hb dX6_looks_85 rfl (lv_at hl 0 rfl) ?_
            refine lv_if_eq (tgt := 93) hx hb dX6_looks_86 (by decide) (fun h9 => absurd h9 c46) (fun _ => ?_)
            refine lv_iconst (v := 1) hx hb dX6_looks_89 (by decide) ?_
            refine lv_goto (tgt := 94) hx hb dX6_looks_90 (by decide) ?_
            refine lv_iadd hx hb dX6_looks_94 ?_
            refine g_puti (k := 31) B F P ok6 (by decide) rfl rfl rfl (by decide) rfl (tyX6_ok 31 (by decide)) q845 dX6_looks_95 (fun H locs P => ?_)
            refine lv_iinc (v := (x2_19 + 1)) (lv' := [(2, .int (x2_19 + 1)), (3, .int ((f_X6_isAllowed x2_19 many σ19).1)), (0, .ref (ad 19)), (1, .int many)]) hx hb dX6_looks_98 hl (k := 1) rfl (by first | rfl | decide) (by decide) rfl (fun ls hl => ?_)
            refine lv_goto (tgt := 19) hx hb dX6_looks_101 (by decide) ?_
            exact ih19 (x2_19 + 1) (sI (sI (sI (f_X6_laysBack 21 20 ((f_X6_isAllowed x2_19 many σ19).2)) 19 29 x2_19) 19 30 (rI (f_X6_laysBack 21 20 ((f_X6_isAllowed x2_19 many σ19).2)) 19 33)) 19 31 ((rI (f_X6_laysBack 21 20 ((f_X6_isAllowed x2_19 many σ19).2)) 19 31) + 1)) (hI19.next c23 (shl_le' hm)) (((hM19.ml (ml_X6_isAllowed _ _ _)).ml (ml_X6_laysBack 21 20 (Or.inl rfl) _)).ml (by (repeat first | exact Ml.refl | refine Ml.sI ?_ (by omega)))) hE _ _ P _ (lv_sub hl [0, 2, 3] rfl)
          · rw [if_neg c53] at hE
            refine lv_aload_n hx hb dX6_looks_56 rfl (lv_at hl 2 rfl) ?_
            refine g_geti (k := 33) B F P ok6 (by decide) rfl rfl rfl (by decide) q847 dX6_looks_57 ?_
            refine lv_aload_n hx hb dX6_looks_60 rfl (lv_at hl 2 rfl) ?_
            refine g_geti (k := 30) B F P ok6 (by decide) rfl rfl rfl (by decide) q844 dX6_looks_61 ?_
            refine lv_icmp_ge (tgt := 80) hx hb dX6_looks_64 (by decide) (fun c64 => ?_) (fun c64 => ?_)
            · rw [if_pos c64] at hE
              refine lv_aload_n hx hb dX6_looks_80 rfl (lv_at hl 2 rfl) ?_
              refine lv_dup hx hb dX6_looks_81 rfl ?_
              refine g_geti (k := 31) B F P ok6 (by decide) rfl rfl rfl (by decide) q845 dX6_looks_82 ?_
              refine lv_iload_n hx hb dX6_looks_85 rfl (lv_at hl 0 rfl) ?_
              refine lv_if_eq (tgt := 93) hx hb dX6_looks_86 (by decide) (fun h9 => absurd h9 c46) (fun _ => ?_)
              refine lv_iconst (v := 1) hx hb dX6_looks_89 (by decide) ?_
              refine lv_goto (tgt := 94) hx hb dX6_looks_90 (by decide) ?_
              refine lv_iadd hx hb dX6_looks_94 ?_
              refine g_puti (k := 31) B F P ok6 (by decide) rfl rfl rfl (by decide) rfl (tyX6_ok 31 (by decide)) q845 dX6_looks_95 (fun H locs P => ?_)
              refine lv_iinc (v := (x2_19 + 1)) (lv' := [(2, .int (x2_19 + 1)), (3, .int ((f_X6_isAllowed x2_19 many σ19).1)), (0, .ref (ad 19)), (1, .int many)]) hx hb dX6_looks_98 hl (k := 1) rfl (by first | rfl | decide) (by decide) rfl (fun ls hl => ?_)
              refine lv_goto (tgt := 19) hx hb dX6_looks_101 (by decide) ?_
              exact ih19 (x2_19 + 1) (sI (f_X6_laysBack 21 20 ((f_X6_isAllowed x2_19 many σ19).2)) 19 31 ((rI (f_X6_laysBack 21 20 ((f_X6_isAllowed x2_19 many σ19).2)) 19 31) + 1)) (hI19.next c23 (shl_le' hm)) (((hM19.ml (ml_X6_isAllowed _ _ _)).ml (ml_X6_laysBack 21 20 (Or.inl rfl) _)).ml (by (repeat first | exact Ml.refl | refine Ml.sI ?_ (by omega)))) hE _ _ P _ (lv_sub hl [0, 2, 3] rfl)
            · rw [if_neg c64] at hE
              refine lv_aload_n hx hb dX6_looks_67 rfl (lv_at hl 2 rfl) ?_
              refine lv_iload_n hx hb dX6_looks_68 rfl (lv_at hl 1 rfl) ?_
              refine g_puti (k := 29) B F P ok6 (by decide) rfl rfl rfl (by decide) rfl (tyX6_ok 29 (by decide)) q843 dX6_looks_69 (fun H locs P => ?_)
              refine lv_aload_n hx hb dX6_looks_72 rfl (lv_at hl 2 rfl) ?_
              refine lv_aload_n hx hb dX6_looks_73 rfl (lv_at hl 2 rfl) ?_
              refine g_getiv (k := 33) (v := (rI (f_X6_laysBack 21 20 ((f_X6_isAllowed x2_19 many σ19).2)) 19 33)) B F P ok6 (by decide) rfl rfl rfl (by decide) q847 dX6_looks_74 rfl ?_
              refine g_puti (k := 30) B F P ok6 (by decide) rfl rfl rfl (by decide) rfl (tyX6_ok 30 (by decide)) q844 dX6_looks_77 (fun H locs P => ?_)
              refine lv_aload_n hx hb dX6_looks_80 rfl (lv_at hl 2 rfl) ?_
              refine lv_dup hx hb dX6_looks_81 rfl ?_
              refine g_getiv (k := 31) (v := (rI (f_X6_laysBack 21 20 ((f_X6_isAllowed x2_19 many σ19).2)) 19 31)) B F P ok6 (by decide) rfl rfl rfl (by decide) q845 dX6_looks_82 rfl ?_
              refine lv_iload_n hx hb dX6_looks_85 rfl (lv_at hl 0 rfl) ?_
              refine lv_if_eq (tgt := 93) hx hb dX6_looks_86 (by decide) (fun h9 => absurd h9 c46) (fun _ => ?_)
              refine lv_iconst (v := 1) hx hb dX6_looks_89 (by decide) ?_
              refine lv_goto (tgt := 94) hx hb dX6_looks_90 (by decide) ?_
              refine lv_iadd hx hb dX6_looks_94 ?_
              refine g_puti (k := 31) B F P ok6 (by decide) rfl rfl rfl (by decide) rfl (tyX6_ok 31 (by decide)) q845 dX6_looks_95 (fun H locs P => ?_)
              refine lv_iinc (v := (x2_19 + 1)) (lv' := [(2, .int (x2_19 + 1)), (3, .int ((f_X6_isAllowed x2_19 many σ19).1)), (0, .ref (ad 19)), (1, .int many)]) hx hb dX6_looks_98 hl (k := 1) rfl (by first | rfl | decide) (by decide) rfl (fun ls hl => ?_)
              refine lv_goto (tgt := 19) hx hb dX6_looks_101 (by decide) ?_
              exact ih19 (x2_19 + 1) (sI (sI (sI (f_X6_laysBack 21 20 ((f_X6_isAllowed x2_19 many σ19).2)) 19 29 x2_19) 19 30 (rI (f_X6_laysBack 21 20 ((f_X6_isAllowed x2_19 many σ19).2)) 19 33)) 19 31 ((rI (f_X6_laysBack 21 20 ((f_X6_isAllowed x2_19 many σ19).2)) 19 31) + 1)) (hI19.next c23 (shl_le' hm)) (((hM19.ml (ml_X6_isAllowed _ _ _)).ml (ml_X6_laysBack 21 20 (Or.inl rfl) _)).ml (by (repeat first | exact Ml.refl | refine Ml.sI ?_ (by omega)))) hE _ _ P _ (lv_sub hl [0, 2, 3] rfl)
  exact L19 65 0 (f_X6_laysBack 20 21 (sI σ 19 31 0)) LI.start ((hM.ml (by (repeat first | exact Ml.refl | refine Ml.sI ?_ (by omega)))).ml (ml_X6_laysBack 20 21 (Or.inr rfl) _)) hE _ _ P _ (lv_sub hl [0, 1, 2] rfl)
theorem ml_X6_looks_l19 (many : Int32) : ∀ (n : Nat) (x : Int32) (σ : Sg), Ml σ (f_X6_looks_l19 many n x σ)
  | 0, _, _ => Ml.refl
  | n + 1, x, σ => by
    unfold f_X6_looks_l19
    have h : Ml σ (f_X6_laysBack 21 20 (f_X6_isAllowed x many σ).2) := Ml.trans (ml_X6_isAllowed _ _ _) (ml_X6_laysBack 21 20 (Or.inl rfl) _)
    repeat' first | exact Ml.refl | (split) | exact Ml.trans (Ml.trans h (by (repeat first | exact Ml.refl | refine Ml.sI ?_ (by omega)))) (ml_X6_looks_l19 many n _ _)
theorem ml_X6_looks (many : Int32) (σ : Sg) : Ml σ (f_X6_looks many σ) := Ml.trans (Ml.trans (by (repeat first | exact Ml.refl | refine Ml.sI ?_ (by omega))) (ml_X6_laysBack 20 21 (Or.inr rfl) _)) (ml_X6_looks_l19 many _ _ _)
