theorem nk_X2_search : nmOk yX2_search RX2 4 := ⟨rfl, by decide +kernel, by decide +kernel, by decide +kernel⟩
def f_X2_search_l31 (srch : Int32 → Int32 → Int32 → Sg → Sg) (dp : Int32) (sc : Int32) (co : Int32) : Nat → Int32 → Sg → Sg
  | 0, _, σ31 => σ31
  | n31 + 1, x4_31, σ31 => if 1 < x4_31 then σ31 else (if (f_X2_isAsOrdered dp x4_31 σ31) = 0 then (f_X2_search_l31 srch dp sc co n31 (x4_31 + 1) σ31) else (if (f_X2_canPass dp x4_31 σ31).1 = 0 then (f_X2_search_l31 srch dp sc co n31 (x4_31 + 1) ((f_X2_canPass dp x4_31 σ31).2)) else (f_X2_search_l31 srch dp sc co n31 (x4_31 + 1) (srch (dp + 1) ((sc * 2) + x4_31) (co + (rI ((f_X2_canPass dp x4_31 σ31).2) (sid ((dp + 1).toNatClampNeg + 1)) 8)) ((f_X2_canPass dp x4_31 σ31).2)))))
def f_X2_search : Nat → Int32 → Int32 → Int32 → Sg → Sg
  | 0, _, _, _, σ => σ
  | n + 1, dp, sc, co, σ => if co < (rI σ 13 7) then (if dp < (rI σ 13 5) then (f_X2_search_l31 (f_X2_search n) dp sc co 3 0 σ) else (sI (sI σ 13 6 sc) 13 7 co)) else σ
theorem pf_X2_search_l31 (srch : Int32 → Int32 → Int32 → Sg → Sg) (hs : ∀ dp sc co σ, Pf σ (srch dp sc co σ)) (dp sc co : Int32) : ∀ (n : Nat) (x : Int32) (σ : Sg), Pf σ (f_X2_search_l31 srch dp sc co n x σ)
  | 0, _, _ => Pf.refl
  | n + 1, x, σ => by
    unfold f_X2_search_l31
    split
    · exact Pf.refl
    · split
      · exact pf_X2_search_l31 srch hs dp sc co n _ _
      · split
        · exact Pf.trans (pf_X2_canPass _ _ _) (pf_X2_search_l31 srch hs dp sc co n _ _)
        · exact Pf.trans (pf_X2_canPass _ _ _) (Pf.trans (hs _ _ _ _) (pf_X2_search_l31 srch hs dp sc co n _ _))
theorem pf_X2_search : ∀ (n : Nat) (dp sc co : Int32) (σ : Sg), Pf σ (f_X2_search n dp sc co σ)
  | 0, _, _, _, _ => Pf.refl
  | n + 1, dp, sc, co, σ => by
    unfold f_X2_search
    split
    · split
      · exact pf_X2_search_l31 _ (pf_X2_search n) dp sc co _ _ _
      · exact Pf.sI (Pf.sI Pf.refl (by decide)) (by decide)
    · exact Pf.refl
set_option maxHeartbeats 4000000 in
set_option maxRecDepth 100000 in
theorem ct_X2_search {D : va_G} {ad : Nat → Nat} {cy : Nat → ClassId} {ba : Nat} (l : Launch) : ∀ (n : Nat) (dp : Int32) (sc : Int32) (co : Int32) (σ : Sg), (GP σ) → (LI 6 n dp) → Ct D ad cy ba l (4 + n) yX2_search cX2_search 5 none [.ref (ad 13), .int dp, .int sc, .int co] σ none (f_X2_search n dp sc co σ) := by
  intro n
  induction n with
  | zero => intro dp sc co σ hP hD; exact absurd hD LI.zero
  | succ n ih =>
  intro dp sc co σ hP hD
  generalize hE : f_X2_search (n + 1) dp sc co σ = Z
  dsimp only [f_X2_search] at hE
  refine Ct.of (by decide +kernel) (Nat.le_of_ble_eq_true rfl) ?_
  intro p e s m below meth c ls B F P hrt hlk hl
  have hx := B.1
  have hb := B.2.1
  have hl : lv_has ls 5 [(0, .ref (ad 13)), (1, .int dp), (2, .int sc), (3, .int co)] := hl
  refine lv_iload_n hx hb dX2_search_0 rfl (lv_at hl 3 rfl) ?_
  refine lv_aload_n hx hb dX2_search_1 rfl (lv_at hl 0 rfl) ?_
  refine g_geti (k := 7) B F P ok2 (by decide) rfl rfl rfl (by decide) q177 dX2_search_2 ?_
  refine lv_icmp_lt (tgt := 9) hx hb dX2_search_5 (by decide) (fun c5 => ?_) (fun c5 => ?_)
  · rw [if_pos c5] at hE
    refine lv_iload_n hx hb dX2_search_9 rfl (lv_at hl 1 rfl) ?_
    refine lv_aload_n hx hb dX2_search_10 rfl (lv_at hl 0 rfl) ?_
    refine g_geti (k := 5) B F P ok2 (by decide) rfl rfl rfl (by decide) q174 dX2_search_11 ?_
    refine lv_icmp_lt (tgt := 28) hx hb dX2_search_14 (by decide) (fun c14 => ?_) (fun c14 => ?_)
    · rw [if_pos c14] at hE
      refine lv_iconst (v := 0) hx hb dX2_search_28 (by decide) ?_
      refine lv_istore (lv' := [(4, .int 0), (0, .ref (ad 13)), (1, .int dp), (2, .int sc), (3, .int co)]) hx hb dX2_search_29 hl (by decide) rfl (fun ls hl => ?_)
      have L31 : ∀ (n31 : Nat) (x4_31 : Int32) (σ31 : Sg), LI 2 n31 x4_31 → GP σ31 ∧ rI σ31 13 5 = rI σ 13 5 → f_X2_search_l31 (f_X2_search n) dp sc co n31 x4_31 σ31 = Z → ∀ (H : Heap) (locs : List Loc), Wo D ad cy ba s σ31 H locs → ∀ (ls : Array Slot), lv_has ls 5 [(4, .int x4_31), (0, .ref (ad 13)), (1, .int dp), (2, .int sc), (3, .int co)] → W p l e (rmK (4 + (n + 1)) 0 0) s m ([.ref (ad 13), .int dp, .int sc, .int co] : List Value).toArray below meth c H locs 0 0 (MQ below (Qe D ad cy ba none Z) ([.ref (ad 13), .int dp, .int sc, .int co] : List Value).toArray s 0 0 (fun q => ba ≤ q)) (F0 m 31 ls []) := by
        clear hE P hl
        intro n31
        induction n31 with
        | zero => intro x4_31 σ31 hI31 hP31 hE; exact absurd hI31 LI.zero
        | succ n31 ih31 =>
          intro x4_31 σ31 hI31 hP31 hE H locs P ls hl
          dsimp only [f_X2_search_l31] at hE
          refine lv_iload hx hb dX2_search_31 (lv_at hl 0 rfl) ?_
          refine lv_iconst (v := 1) hx hb dX2_search_33 (by decide) ?_
          refine lv_icmp_gt (tgt := 89) hx hb dX2_search_34 (by decide) (fun c34 => ?_) (fun c34 => ?_)
          · rw [if_pos c34] at hE
            exact g_retv B P rfl (by rw [← hE]) hrt hlk dX2_search_89
          · rw [if_neg c34] at hE
            refine lv_aload_n hx hb dX2_search_37 rfl (lv_at hl 1 rfl) ?_
            refine lv_iload_n hx hb dX2_search_38 rfl (lv_at hl 2 rfl) ?_
            refine lv_iload hx hb dX2_search_39 (lv_at hl 0 rfl) ?_
            refine g_callV B F P (As := [.int dp, .int x4_31]) (ct_X2_isAsOrdered (D := D) (ad := ad) (cy := cy) (ba := ba) l dp x4_31 σ31 (hD.into (i_nle c14) hP.2.1)) ok2 (by decide) rfl q678 q680 qs10 q6 q681 nk_X2_isAsOrdered rfl ⟨(by dsimp only [rmK]; omega), (by dsimp only [rmK]; omega)⟩ hl.1 rfl (Nat.le_of_ble_eq_true rfl) dX2_search_41 ⟨Nat.le_of_ble_eq_true rfl, Nat.le_of_ble_eq_true rfl⟩ (fun H locs P => ?_)
            refine lv_if_eq (tgt := 83) hx hb dX2_search_44 (by decide) (fun c44 => ?_) (fun c44 => ?_)
            · rw [if_pos c44] at hE
              refine lv_iinc (v := (x4_31 + 1)) (lv' := [(4, .int (x4_31 + 1)), (0, .ref (ad 13)), (1, .int dp), (2, .int sc), (3, .int co)]) hx hb dX2_search_83 hl (k := 0) rfl (by first | rfl | decide) (by decide) rfl (fun ls hl => ?_)
              refine lv_goto (tgt := 31) hx hb dX2_search_86 (by decide) ?_
              exact ih31 (x4_31 + 1) σ31 (hI31.next' c34 (by decide)) (by first | exact hP31 | exact ⟨hP31.1.pf (pf_X2_canPass _ _ _), ((pf_X2_canPass _ _ _).1 13 5 (by decide) (by omega)).trans hP31.2⟩ | exact ⟨(hP31.1.pf (pf_X2_canPass _ _ _)).pf (pf_X2_search _ _ _ _ _), ((pf_X2_search _ _ _ _ _).1 13 5 (by decide) (by omega)).trans (((pf_X2_canPass _ _ _).1 13 5 (by decide) (by omega)).trans hP31.2)⟩) hE _ _ P _ (lv_sub hl [0, 1, 2, 3, 4] rfl)
            · rw [if_neg c44] at hE
              refine lv_aload_n hx hb dX2_search_47 rfl (lv_at hl 1 rfl) ?_
              refine lv_iload_n hx hb dX2_search_48 rfl (lv_at hl 2 rfl) ?_
              refine lv_iload hx hb dX2_search_49 (lv_at hl 0 rfl) ?_
              refine g_callV B F P (As := [.int dp, .int x4_31]) (ct_X2_canPass (D := D) (ad := ad) (cy := cy) (ba := ba) l dp x4_31 σ31 (hD.into (i_nle c14) hP.2.1) (by first | exact hP31.1 | exact hP31.1.pf (pf_X2_canPass _ _ _))) ok2 (by decide) rfl q682 q684 qs11 q6 q685 nk_X2_canPass rfl ⟨(by dsimp only [rmK]; omega), (by dsimp only [rmK]; omega)⟩ hl.1 rfl (Nat.le_of_ble_eq_true rfl) dX2_search_51 ⟨Nat.le_of_ble_eq_true rfl, Nat.le_of_ble_eq_true rfl⟩ (fun H locs P => ?_)
              refine lv_if_eq (tgt := 83) hx hb dX2_search_54 (by decide) (fun c54 => ?_) (fun c54 => ?_)
              · rw [if_pos c54] at hE
                refine lv_iinc (v := (x4_31 + 1)) (lv' := [(4, .int (x4_31 + 1)), (0, .ref (ad 13)), (1, .int dp), (2, .int sc), (3, .int co)]) hx hb dX2_search_83 hl (k := 0) rfl (by first | rfl | decide) (by decide) rfl (fun ls hl => ?_)
                refine lv_goto (tgt := 31) hx hb dX2_search_86 (by decide) ?_
                exact ih31 (x4_31 + 1) ((f_X2_canPass dp x4_31 σ31).2) (hI31.next' c34 (by decide)) (by first | exact hP31 | exact ⟨hP31.1.pf (pf_X2_canPass _ _ _), ((pf_X2_canPass _ _ _).1 13 5 (by decide) (by omega)).trans hP31.2⟩ | exact ⟨(hP31.1.pf (pf_X2_canPass _ _ _)).pf (pf_X2_search _ _ _ _ _), ((pf_X2_search _ _ _ _ _).1 13 5 (by decide) (by omega)).trans (((pf_X2_canPass _ _ _).1 13 5 (by decide) (by omega)).trans hP31.2)⟩) hE _ _ P _ (lv_sub hl [0, 1, 2, 3, 4] rfl)
              · rw [if_neg c54] at hE
                refine lv_aload_n hx hb dX2_search_57 rfl (lv_at hl 1 rfl) ?_
                refine lv_iload_n hx hb dX2_search_58 rfl (lv_at hl 2 rfl) ?_
                refine lv_iconst (v := 1) hx hb dX2_search_59 (by decide) ?_
                refine lv_iadd hx hb dX2_search_60 ?_
                refine lv_iload_n hx hb dX2_search_61 rfl (lv_at hl 3 rfl) ?_
                refine lv_iconst (v := 2) hx hb dX2_search_62 (by decide) ?_
                refine lv_imul hx hb dX2_search_63 ?_
                refine lv_iload hx hb dX2_search_64 (lv_at hl 0 rfl) ?_
                refine lv_iadd hx hb dX2_search_66 ?_
                refine lv_iload_n hx hb dX2_search_67 rfl (lv_at hl 4 rfl) ?_
                refine lv_aload_n hx hb dX2_search_68 rfl (lv_at hl 1 rfl) ?_
                refine g_getr (k := 2) (t := 14) B F P ok2 (by decide) rfl rfl rfl (by decide) rfl q171 dX2_search_69 ?_
                refine lv_iload_n hx hb dX2_search_72 rfl (lv_at hl 2 rfl) ?_
                refine lv_iconst (v := 1) hx hb dX2_search_73 (by decide) ?_
                refine lv_iadd hx hb dX2_search_74 ?_
                refine g_rld (t := (sid ((dp + 1).toNatClampNeg + 1))) B F P (by decide) rfl (by decide) rfl (in_s (hD.into (i_nle c14) hP.2.1)) ta_r dX2_search_75 ?_
                refine g_geti (k := 8) B F P ok4 (sid_lt0 (r8 (in_s (hD.into (i_nle c14) hP.2.1)))) (kd_s0 ((dp + 1).toNatClampNeg + 1)) rfl rfl (by decide) q107 dX2_search_76 ?_
                refine lv_iadd hx hb dX2_search_79 ?_
                refine g_callS B F P (As := [.ref (ad 13), .int (dp + 1), .int ((sc * 2) + x4_31), .int (co + (rI ((f_X2_canPass dp x4_31 σ31).2) (sid ((dp + 1).toNatClampNeg + 1)) 8))]) (ih (dp + 1) ((sc * 2) + x4_31) (co + (rI ((f_X2_canPass dp x4_31 σ31).2) (sid ((dp + 1).toNatClampNeg + 1)) 8)) ((f_X2_canPass dp x4_31 σ31).2) (by first | exact hP31.1 | exact hP31.1.pf (pf_X2_canPass _ _ _)) (hD.next (i_nle c14) hP.2.1)) q675 q676 q6 q677 nk_X2_search rfl ⟨(by dsimp only [rmK]; omega), (by dsimp only [rmK]; omega)⟩ hl.1 rfl (Nat.le_of_ble_eq_true rfl) dX2_search_80 ⟨Nat.le_of_ble_eq_true rfl, Nat.le_of_ble_eq_true rfl⟩ (fun H locs P => ?_)
                refine lv_iinc (v := (x4_31 + 1)) (lv' := [(4, .int (x4_31 + 1)), (0, .ref (ad 13)), (1, .int dp), (2, .int sc), (3, .int co)]) hx hb dX2_search_83 hl (k := 0) rfl (by first | rfl | decide) (by decide) rfl (fun ls hl => ?_)
                refine lv_goto (tgt := 31) hx hb dX2_search_86 (by decide) ?_
                exact ih31 (x4_31 + 1) ((f_X2_search n) (dp + 1) ((sc * 2) + x4_31) (co + (rI ((f_X2_canPass dp x4_31 σ31).2) (sid ((dp + 1).toNatClampNeg + 1)) 8)) ((f_X2_canPass dp x4_31 σ31).2)) (hI31.next' c34 (by decide)) (by first | exact hP31 | exact ⟨hP31.1.pf (pf_X2_canPass _ _ _), ((pf_X2_canPass _ _ _).1 13 5 (by decide) (by omega)).trans hP31.2⟩ | exact ⟨(hP31.1.pf (pf_X2_canPass _ _ _)).pf (pf_X2_search _ _ _ _ _), ((pf_X2_search _ _ _ _ _).1 13 5 (by decide) (by omega)).trans (((pf_X2_canPass _ _ _).1 13 5 (by decide) (by omega)).trans hP31.2)⟩) hE _ _ P _ (lv_sub hl [0, 1, 2, 3, 4] rfl)
      exact L31 3 0 σ LI.start ⟨hP, rfl⟩ hE _ _ P _ (lv_sub hl [0, 1, 2, 3, 4] rfl)
    · rw [if_neg c14] at hE
      refine lv_aload_n hx hb dX2_search_17 rfl (lv_at hl 0 rfl) ?_
      refine lv_iload_n hx hb dX2_search_18 rfl (lv_at hl 2 rfl) ?_
      refine g_puti (k := 6) B F P ok2 (by decide) rfl rfl rfl (by decide) rfl (tyX2_ok 6 (by decide)) q175 dX2_search_19 (fun H locs P => ?_)
      refine lv_aload_n hx hb dX2_search_22 rfl (lv_at hl 0 rfl) ?_
      refine lv_iload_n hx hb dX2_search_23 rfl (lv_at hl 3 rfl) ?_
      refine g_puti (k := 7) B F P ok2 (by decide) rfl rfl rfl (by decide) rfl (tyX2_ok 7 (by decide)) q177 dX2_search_24 (fun H locs P => ?_)
      exact g_retv B P rfl (by rw [← hE]) hrt hlk dX2_search_27
  · rw [if_neg c5] at hE
    exact g_retv B P rfl (by rw [← hE]) hrt hlk dX2_search_8
