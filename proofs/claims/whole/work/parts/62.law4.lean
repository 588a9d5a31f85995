set_option maxHeartbeats 4000000 in
set_option maxRecDepth 100000 in
theorem lw_loop {p : Program} {l : Launch} {e : Env} {s : State} {m : MethodId} {below : List Frame} {meth : Method} {c : Code} {D : va_G} {g : Nat → ClassId} {b L : Nat} {scr : Nat → Int32} {x tn ac sp ou oc mo wi ck fq co sq uq gq kd M : Nat} {wr : va_W} {fw fc ff fco fu fg : Nat → Int32} (C9 : lw_C p l s m meth c D g b L scr kd M oc wr fw fc ff fco) : ∀ (n i k9 n9 : Nat), L + 5 ≤ i + n → i ≤ L + 4 → k9 ≤ 33 + i → n9 ≤ 1306 + 6 * i → lw_G p l e s m below meth c D g b x tn ac sp ou oc mo wi ck fq co sq uq gq kd M wr fw fc ff fco fu fg i k9 n9 43 := by
  have C8 := C9
  obtain ⟨hlt, ⟨hx, hb, hr, hml, hown0, hts0, hX, hbl, hlocks, hgv⟩, hKK, hTN, hTS, ⟨hM0, hM, hkd, hmw, hcw⟩, hL⟩ := C9
  have hts : ∀ w ∈ wA, w.before #[Value.ref b] s = true := fun w h => hts0 w (wA_tbl h)
  have hown : s.vm.findClass R_W = some m.cls := hown0
  have hK := hKK.1
  have hA : ∀ q : Nat, s.heap.size ≤ q → (fun q : Nat => s.heap.size ≤ q) q := fun _ h => h
  have hbA : ¬ (fun q : Nat => s.heap.size ≤ q) b := Nat.not_le.mpr hbl
  have hRc : room_1.cells = 601024 := rfl
  have hRs : room_1.slots = 7293000 := rfl
  have hck := ckb_le kd M
  intro n
  induction n with
  | zero => intro i k9 n9 h1 h2; exact absurd h1 (by omega)
  | succ n ih =>
    intro i k9 n9 h1 h2 h3 h4
    have K : i + 4 ≤ L → lw_G p l e s m below meth c D g b x tn ac sp ou oc mo wi ck fq co sq uq gq kd M wr fw fc ff fco fu fg i (k9 + 1) (n9 + 6) 841 := by
      intro hi
      intro ha fl w1 c1 t1 an su a0 ma b0 lb th mk bi fa fs fsq fo ls H locs hok hl hP hD hS
      refine lv_iinc (v := nI (i + 4)) (lv' := [(4, .int (nI (i + 4))), (0, .ref b), (1, .ref x), (2, .ref mo), (3, .ref ou)]) hx hb d_W_law_841 hl (k := 4) rfl (nI_add _ _) (by decide) rfl (fun ls hl => ?_)
      refine lv_goto (tgt := 43) hx hb d_W_law_844 (by decide) ?_
      exact ih (i + 4) (k9 + 1) (n9 + 6) (by omega) (by omega) (by omega) (by omega) ha fl w1 c1 t1 an su a0 ma b0 lb th mk bi fa fs fsq fo _ _ _ hok (lv_sub hl [1, 2, 3, 4, 0] rfl) hP hD hS
    intro ha fl w1 c1 t1 an su a0 ma b0 lb th mk bi fa fs fsq fo ls H locs hok hl hP hD hS
    have hP : va_P D vwCl ((tn, .inr (5, [.long (a0), .int (b0)])) :: (x, .inr (0, [.int (nI kd), .int (nI M), .int (nI (M + ckb kd M)), .long (lN (2 ^ M - 1)), .int (nI (2 ^ ckb kd M - 1)), .ref oc, .ref tn, .int (nI ha), .int (nI ((if ha = 1 then fl else 0))), .long (lN w1), .int (nI c1), .int (nI t1), .ref ac, .int (nI an), .int (lb), .ref sp, .int (nI su)])) :: (ac, .inl (g 0, 8, .inl (fa))) :: (sp, .inl (g 0, 8, .inl (fs))) :: (ou, .inl (g 1, 1, .inr (.inl (fo)))) :: (mo, .inr (6, [.int (th), .int (nI M), .int (nI kd), .int (nI (ckb kd M)), .int (nI (nk kd)), .ref wi, .ref ck, .ref fq, .ref co, .int (nI (grsK kd M)), .int (nI ha), .int (nI fl), .long (ma), .int (mk), .int (bi), .long (lN w1), .int (nI c1), .int (nI t1), .ref sq, .ref uq, .ref gq])) :: (wi, .inl (g 0, 4, .inl (fw))) :: (ck, .inl (g 0, 4, .inl (fc))) :: (fq, .inl (g 0, 4, .inl (ff))) :: (co, .inl (g 0, 228, .inl (fco))) :: (sq, .inl (g 0, 8, .inl (fsq))) :: (uq, .inl (g 2, 128, .inl (fu))) :: (gq, .inl (g 0, 7, .inl (fg))) :: wr) H := hP
    have hD : va_D (fun q : Nat => s.heap.size ≤ q) ((tn, .inr (5, [.long (a0), .int (b0)])) :: (x, .inr (0, [.int (nI kd), .int (nI M), .int (nI (M + ckb kd M)), .long (lN (2 ^ M - 1)), .int (nI (2 ^ ckb kd M - 1)), .ref oc, .ref tn, .int (nI ha), .int (nI ((if ha = 1 then fl else 0))), .long (lN w1), .int (nI c1), .int (nI t1), .ref ac, .int (nI an), .int (lb), .ref sp, .int (nI su)])) :: (ac, .inl (g 0, 8, .inl (fa))) :: (sp, .inl (g 0, 8, .inl (fs))) :: (ou, .inl (g 1, 1, .inr (.inl (fo)))) :: (mo, .inr (6, [.int (th), .int (nI M), .int (nI kd), .int (nI (ckb kd M)), .int (nI (nk kd)), .ref wi, .ref ck, .ref fq, .ref co, .int (nI (grsK kd M)), .int (nI ha), .int (nI fl), .long (ma), .int (mk), .int (bi), .long (lN w1), .int (nI c1), .int (nI t1), .ref sq, .ref uq, .ref gq])) :: (wi, .inl (g 0, 4, .inl (fw))) :: (ck, .inl (g 0, 4, .inl (fc))) :: (fq, .inl (g 0, 4, .inl (ff))) :: (co, .inl (g 0, 228, .inl (fco))) :: (sq, .inl (g 0, 8, .inl (fsq))) :: (uq, .inl (g 2, 128, .inl (fu))) :: (gq, .inl (g 0, 7, .inl (fg))) :: wr) := hD
    refine lv_iload hx hb d_W_law_43 (lv_at hl 4 rfl) ?_
    refine lv_aload_n hx hb d_W_law_45 rfl (lv_at hl 0 rfl) ?_
    refine lx_slen hx hb hX hbl hbA hS d_W_law_46 ?_
    refine lv_iconst (v := nI 4) hx hb d_W_law_47 (by decide) ?_
    refine lx_isub (z := nI L - nI 4) hx hb d_W_law_48 (rfl) ?_
    refine lv_icmp_gt (tgt := 847) hx hb d_W_law_49 (by decide) (fun k49 => ?_) (fun k49 => ?_)
    · skip
      refine lv_iconst (v := nI 1) hx hb d_W_law_847 (by decide) ?_
      refine va_forget (fun q hq => hS.2.2 q hq) ?_
      refine W.widen (k := 601024) (n := 7293000) (by omega) (by omega) ?_
      exact lw_ret hx hb hr hlocks d_W_law_848
    · skip
      have hi : i + 4 ≤ L := Nat.le_of_not_lt (fun q => k49 ((lw_gt (by omega) hL).mpr q))
      obtain ⟨t, ht, het⟩ := sw16 (scr i)
      refine lv_aload_n hx hb d_W_law_52 rfl (lv_at hl 0 rfl) ?_
      refine lv_iload hx hb d_W_law_53 (lv_at hl 4 rfl) ?_
      refine lx_sld (v := scr i) (j := i) hx hb hX hbl hbA hS (by omega) (by omega) (rfl) d_W_law_55 ?_
      refine lv_bipush (v := nI 15) hx hb d_W_law_56 (by decide) ?_
      refine lx_iand (z := nI t) hx hb d_W_law_58 (het) ?_
      rcases (show t = 0 ∨ t = 1 ∨ t = 2 ∨ t = 3 ∨ t = 4 ∨ t = 5 ∨ t = 6 ∨ t = 7 ∨ t = 8 ∨ t = 9 ∨ t = 10 ∨ t = 11 ∨ t = 12 ∨ t = 13 ∨ t = 14 ∨ t = 15 by omega) with rfl | rfl | rfl | rfl | rfl | rfl | rfl | rfl | rfl | rfl | rfl | rfl | rfl | rfl | rfl | rfl
      · refine lv_tableIn (off := 73) (tgt := 132) hx hb d_W_law_59 (by decide) (by decide) (by decide) (by decide) ?_
        exact lw_0 C8 hi (by omega) (by omega) (K hi) ha fl w1 c1 t1 an su a0 ma b0 lb th mk bi fa fs fsq fo _ _ _ hok (lv_sub hl [0, 1, 2, 3, 4] rfl) hP hD hS
      · refine lv_tableIn (off := 98) (tgt := 157) hx hb d_W_law_59 (by decide) (by decide) (by decide) (by decide) ?_
        exact lw_1 C8 hi (by omega) (by omega) (K hi) ha fl w1 c1 t1 an su a0 ma b0 lb th mk bi fa fs fsq fo _ _ _ hok (lv_sub hl [0, 1, 2, 3, 4] rfl) hP hD hS
      · refine lv_tableIn (off := 154) (tgt := 213) hx hb d_W_law_59 (by decide) (by decide) (by decide) (by decide) ?_
        exact lw_2 C8 hi (by omega) (by omega) (K hi) ha fl w1 c1 t1 an su a0 ma b0 lb th mk bi fa fs fsq fo _ _ _ hok (lv_sub hl [0, 1, 2, 3, 4] rfl) hP hD hS
      · refine lv_tableIn (off := 217) (tgt := 276) hx hb d_W_law_59 (by decide) (by decide) (by decide) (by decide) ?_
        exact lw_3 C8 hi (by omega) (by omega) (K hi) ha fl w1 c1 t1 an su a0 ma b0 lb th mk bi fa fs fsq fo _ _ _ hok (lv_sub hl [0, 1, 2, 3, 4] rfl) hP hD hS
      · refine lv_tableIn (off := 230) (tgt := 289) hx hb d_W_law_59 (by decide) (by decide) (by decide) (by decide) ?_
        exact lw_4 C8 hi (by omega) (by omega) (K hi) ha fl w1 c1 t1 an su a0 ma b0 lb th mk bi fa fs fsq fo _ _ _ hok (lv_sub hl [0, 1, 2, 3, 4] rfl) hP hD hS
      · refine lv_tableIn (off := 287) (tgt := 346) hx hb d_W_law_59 (by decide) (by decide) (by decide) (by decide) ?_
        exact lw_5 C8 hi (by omega) (by omega) (K hi) ha fl w1 c1 t1 an su a0 ma b0 lb th mk bi fa fs fsq fo _ _ _ hok (lv_sub hl [0, 1, 2, 3, 4] rfl) hP hD hS
      · refine lv_tableIn (off := 387) (tgt := 446) hx hb d_W_law_59 (by decide) (by decide) (by decide) (by decide) ?_
        exact lw_6 C8 hi (by omega) (by omega) (K hi) ha fl w1 c1 t1 an su a0 ma b0 lb th mk bi fa fs fsq fo _ _ _ hok (lv_sub hl [0, 1, 2, 3, 4] rfl) hP hD hS
      · refine lv_tableIn (off := 401) (tgt := 460) hx hb d_W_law_59 (by decide) (by decide) (by decide) (by decide) ?_
        exact lw_7 C8 hi (by omega) (by omega) (K hi) ha fl w1 c1 t1 an su a0 ma b0 lb th mk bi fa fs fsq fo _ _ _ hok (lv_sub hl [0, 1, 2, 3, 4] rfl) hP hD hS
      · refine lv_tableIn (off := 414) (tgt := 473) hx hb d_W_law_59 (by decide) (by decide) (by decide) (by decide) ?_
        exact lw_8 C8 hi (by omega) (by omega) (K hi) ha fl w1 c1 t1 an su a0 ma b0 lb th mk bi fa fs fsq fo _ _ _ hok (lv_sub hl [0, 1, 2, 3, 4] rfl) hP hD hS
      · refine lv_tableIn (off := 427) (tgt := 486) hx hb d_W_law_59 (by decide) (by decide) (by decide) (by decide) ?_
        exact lw_9 C8 hi (by omega) (by omega) (K hi) ha fl w1 c1 t1 an su a0 ma b0 lb th mk bi fa fs fsq fo _ _ _ hok (lv_sub hl [0, 1, 2, 3, 4] rfl) hP hD hS
      · refine lv_tableIn (off := 495) (tgt := 554) hx hb d_W_law_59 (by decide) (by decide) (by decide) (by decide) ?_
        exact lw_10 C8 hi (by omega) (by omega) (K hi) ha fl w1 c1 t1 an su a0 ma b0 lb th mk bi fa fs fsq fo _ _ _ hok (lv_sub hl [0, 1, 2, 3, 4] rfl) hP hD hS
      · refine lv_tableIn (off := 551) (tgt := 610) hx hb d_W_law_59 (by decide) (by decide) (by decide) (by decide) ?_
        exact lw_11 C8 hi (by omega) (by omega) (K hi) ha fl w1 c1 t1 an su a0 ma b0 lb th mk bi fa fs fsq fo _ _ _ hok (lv_sub hl [0, 1, 2, 3, 4] rfl) hP hD hS
      · refine lv_tableIn (off := 614) (tgt := 673) hx hb d_W_law_59 (by decide) (by decide) (by decide) (by decide) ?_
        exact lw_12 C8 hi (by omega) (by omega) (K hi) ha fl w1 c1 t1 an su a0 ma b0 lb th mk bi fa fs fsq fo _ _ _ hok (lv_sub hl [0, 1, 2, 3, 4] rfl) hP hD hS
      · refine lv_tableIn (off := 670) (tgt := 729) hx hb d_W_law_59 (by decide) (by decide) (by decide) (by decide) ?_
        exact lw_13 C8 hi (by omega) (by omega) (K hi) ha fl w1 c1 t1 an su a0 ma b0 lb th mk bi fa fs fsq fo _ _ _ hok (lv_sub hl [0, 1, 2, 3, 4] rfl) hP hD hS
      · refine lv_tableIn (off := 726) (tgt := 785) hx hb d_W_law_59 (by decide) (by decide) (by decide) (by decide) ?_
        exact lw_14 C8 hi (by omega) (by omega) (K hi) ha fl w1 c1 t1 an su a0 ma b0 lb th mk bi fa fs fsq fo _ _ _ hok (lv_sub hl [0, 1, 2, 3, 4] rfl) hP hD hS
      · refine lv_tableOut (tgt := 841) hx hb d_W_law_59 (by decide) (by decide) ?_
        refine W.widen (k := k9 + 1) (n := n9 + 6) (by omega) (by omega) ?_
        exact K hi ha fl w1 c1 t1 an su a0 ma b0 lb th mk bi fa fs fsq fo _ _ _ hok (lv_sub hl [0, 1, 2, 3, 4] rfl) hP hD hS
