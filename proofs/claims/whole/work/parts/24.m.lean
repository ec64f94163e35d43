theorem l_189_0 {V : xV} {g : xG} {Y : xW} {l1 : Int32} {l2 : Int32} {Q : Int32 → xW → Prop} (H : L_96_0 V g Y l1 l2 (fun x2 Y1 => vp_in 0 1 ∧ ∀ Y3, Y3 = uL Y1 (12, 0, 0) 0 (Int32.toNatClampNeg 0) (Int32.toInt64 x2) → Q 0 Y3) (fun e Y1 => xhd 189 5 e = true ∧ Q 1 Y1)) : L_189_0 V g Y l1 l2 Q := by
  intro h lv R e0 e1 e2 e3
  refine y_next (pc' := 1) (xst_of (i := (.aload_n 3)) (len := 1) rfl rfl (x_aloadV (xisV_r _) e3)) ?_
  refine y_next (pc' := 2) (xst_of (i := (.iconst 0)) (len := 1) rfl rfl (x_ico (v := 0) (by decide))) ?_
  refine y_next (pc' := 3) (xst_of (i := (.aload_n 0)) (len := 1) rfl rfl (x_aloadV (xisV_r _) e0)) ?_
  refine y_next (pc' := 4) (xst_of (i := (.iload_n 1)) (len := 1) rfl rfl (x_ilo e1)) ?_
  refine y_next (pc' := 5) (xst_of (i := (.iload_n 2)) (len := 1) rfl rfl (x_ilo e2)) ?_
  refine z_cTI (k := 96) (i := (.invokevirtual 7)) (as := [.ref (g.2 (9, 0, 0) 0), .int l1, .int l2]) (rest := [.int 0, .ref (g.2 (12, 0, 0) 1)]) rfl rfl (x_callv rfl rfl (rc_ob R (rc_9 R) rfl) rfl rfl) (H _ _ R rfl rfl rfl) (fun x2 h Y1 R H => ?_) (fun e h Y1 R H => ⟨H.1, _, _, rfl, R, H.2⟩)
  refine y_next (pc' := 9) (xst_of (i := .i2l) (len := 1) rfl rfl rfl) ?_
  refine z_sL (t := (12, 0, 0)) (k := 0) (n := 1) (i := 0) rfl rfl (by decide) R (rc_12 R) H.1 (fun h Y3 hY R => ?_)
  replace H := H.2 Y3 hY
  clear hY
  refine y_next (pc' := 17) (xst_of (i := (.goto 7)) (len := 3) rfl rfl rfl) ?_
  refine y_next (pc' := 18) (xst_of (i := (.iconst 0)) (len := 1) rfl rfl (x_ico (v := 0) (by decide))) ?_
  exact y_ret (xst_of (i := .ireturn) (len := 1) rfl rfl rfl) ⟨_, _, rfl, R, H⟩
theorem l_190_0 {V : xV} {g : xG} {Y : xW} {l1 : Int32} {Q : Int32 → xW → Prop} (H : L_99_0 V g Y l1 (fun x2 Y1 => vp_in 0 1 ∧ ∀ Y3, Y3 = uL Y1 (12, 0, 0) 0 (Int32.toNatClampNeg 0) (Int32.toInt64 x2) → Q 0 Y3) (fun e Y1 => xhd 190 4 e = true ∧ Q 1 Y1)) : L_190_0 V g Y l1 Q := by
  intro h lv R e0 e1 e2
  refine y_next (pc' := 1) (xst_of (i := (.aload_n 2)) (len := 1) rfl rfl (x_aloadV (xisV_r _) e2)) ?_
  refine y_next (pc' := 2) (xst_of (i := (.iconst 0)) (len := 1) rfl rfl (x_ico (v := 0) (by decide))) ?_
  refine y_next (pc' := 3) (xst_of (i := (.aload_n 0)) (len := 1) rfl rfl (x_aloadV (xisV_r _) e0)) ?_
  refine y_next (pc' := 4) (xst_of (i := (.iload_n 1)) (len := 1) rfl rfl (x_ilo e1)) ?_
  refine z_cTI (k := 99) (i := (.invokevirtual 15)) (as := [.ref (g.2 (9, 0, 0) 0), .int l1]) (rest := [.int 0, .ref (g.2 (12, 0, 0) 1)]) rfl rfl (x_callv rfl rfl (rc_ob R (rc_9 R) rfl) rfl rfl) (H _ _ R rfl rfl) (fun x2 h Y1 R H => ?_) (fun e h Y1 R H => ⟨H.1, _, _, rfl, R, H.2⟩)
  refine y_next (pc' := 8) (xst_of (i := .i2l) (len := 1) rfl rfl rfl) ?_
  refine z_sL (t := (12, 0, 0)) (k := 0) (n := 1) (i := 0) rfl rfl (by decide) R (rc_12 R) H.1 (fun h Y3 hY R => ?_)
  replace H := H.2 Y3 hY
  clear hY
  refine y_next (pc' := 15) (xst_of (i := (.goto 6)) (len := 3) rfl rfl rfl) ?_
  refine y_next (pc' := 16) (xst_of (i := (.iconst 0)) (len := 1) rfl rfl (x_ico (v := 0) (by decide))) ?_
  exact y_ret (xst_of (i := .ireturn) (len := 1) rfl rfl rfl) ⟨_, _, rfl, R, H⟩
theorem l_191_0 {V : xV} {g : xG} {Y : xW} {l1 : Int32} {Q : Int32 → xW → Prop} (H : L_100_0 V g Y l1 (fun x2 Y1 => vp_in 0 1 ∧ ∀ Y3, Y3 = uL Y1 (12, 0, 0) 0 (Int32.toNatClampNeg 0) (Int32.toInt64 x2) → Q 0 Y3) (fun e Y1 => xhd 191 4 e = true ∧ Q 1 Y1)) : L_191_0 V g Y l1 Q := by
  intro h lv R e0 e1 e2
  refine y_next (pc' := 1) (xst_of (i := (.aload_n 2)) (len := 1) rfl rfl (x_aloadV (xisV_r _) e2)) ?_
  refine y_next (pc' := 2) (xst_of (i := (.iconst 0)) (len := 1) rfl rfl (x_ico (v := 0) (by decide))) ?_
  refine y_next (pc' := 3) (xst_of (i := (.aload_n 0)) (len := 1) rfl rfl (x_aloadV (xisV_r _) e0)) ?_
  refine y_next (pc' := 4) (xst_of (i := (.iload_n 1)) (len := 1) rfl rfl (x_ilo e1)) ?_
  refine z_cTI (k := 100) (i := (.invokevirtual 21)) (as := [.ref (g.2 (9, 0, 0) 0), .int l1]) (rest := [.int 0, .ref (g.2 (12, 0, 0) 1)]) rfl rfl (x_callv rfl rfl (rc_ob R (rc_9 R) rfl) rfl rfl) (H _ _ R rfl rfl) (fun x2 h Y1 R H => ?_) (fun e h Y1 R H => ⟨H.1, _, _, rfl, R, H.2⟩)
  refine y_next (pc' := 8) (xst_of (i := .i2l) (len := 1) rfl rfl rfl) ?_
  refine z_sL (t := (12, 0, 0)) (k := 0) (n := 1) (i := 0) rfl rfl (by decide) R (rc_12 R) H.1 (fun h Y3 hY R => ?_)
  replace H := H.2 Y3 hY
  clear hY
  refine y_next (pc' := 15) (xst_of (i := (.goto 6)) (len := 3) rfl rfl rfl) ?_
  refine y_next (pc' := 16) (xst_of (i := (.iconst 0)) (len := 1) rfl rfl (x_ico (v := 0) (by decide))) ?_
  exact y_ret (xst_of (i := .ireturn) (len := 1) rfl rfl rfl) ⟨_, _, rfl, R, H⟩
theorem l_192_0 {V : xV} {g : xG} {Y : xW} {l1 : Int32} {l2 : Int32} {Q : Int32 → xW → Prop} (H : L_102_0 V g Y l1 l2 (fun x2 Y1 => vp_in 0 1 ∧ ∀ Y3, Y3 = uL Y1 (12, 0, 0) 0 (Int32.toNatClampNeg 0) (Int32.toInt64 x2) → Q 0 Y3) (fun e Y1 => xhd 192 5 e = true ∧ Q 1 Y1)) : L_192_0 V g Y l1 l2 Q := by
  intro h lv R e0 e1 e2 e3
  refine y_next (pc' := 1) (xst_of (i := (.aload_n 3)) (len := 1) rfl rfl (x_aloadV (xisV_r _) e3)) ?_
  refine y_next (pc' := 2) (xst_of (i := (.iconst 0)) (len := 1) rfl rfl (x_ico (v := 0) (by decide))) ?_
  refine y_next (pc' := 3) (xst_of (i := (.aload_n 0)) (len := 1) rfl rfl (x_aloadV (xisV_r _) e0)) ?_
  refine y_next (pc' := 4) (xst_of (i := (.iload_n 1)) (len := 1) rfl rfl (x_ilo e1)) ?_
  refine y_next (pc' := 5) (xst_of (i := (.iload_n 2)) (len := 1) rfl rfl (x_ilo e2)) ?_
  refine z_cTI (k := 102) (i := (.invokevirtual 24)) (as := [.ref (g.2 (9, 0, 0) 0), .int l1, .int l2]) (rest := [.int 0, .ref (g.2 (12, 0, 0) 1)]) rfl rfl (x_callv rfl rfl (rc_ob R (rc_9 R) rfl) rfl rfl) (H _ _ R rfl rfl rfl) (fun x2 h Y1 R H => ?_) (fun e h Y1 R H => ⟨H.1, _, _, rfl, R, H.2⟩)
  refine y_next (pc' := 9) (xst_of (i := .i2l) (len := 1) rfl rfl rfl) ?_
  refine z_sL (t := (12, 0, 0)) (k := 0) (n := 1) (i := 0) rfl rfl (by decide) R (rc_12 R) H.1 (fun h Y3 hY R => ?_)
  replace H := H.2 Y3 hY
  clear hY
  refine y_next (pc' := 17) (xst_of (i := (.goto 7)) (len := 3) rfl rfl rfl) ?_
  refine y_next (pc' := 18) (xst_of (i := (.iconst 0)) (len := 1) rfl rfl (x_ico (v := 0) (by decide))) ?_
  exact y_ret (xst_of (i := .ireturn) (len := 1) rfl rfl rfl) ⟨_, _, rfl, R, H⟩
theorem l_193_0 {V : xV} {g : xG} {Y : xW} {l1 : Int32} {l2 : Int32} {Q : Int32 → xW → Prop} (H : L_103_0 V g Y l1 l2 (fun x2 Y1 => vp_in 0 1 ∧ ∀ Y3, Y3 = uL Y1 (12, 0, 0) 0 (Int32.toNatClampNeg 0) (Int32.toInt64 x2) → Q 0 Y3) (fun e Y1 => xhd 193 5 e = true ∧ Q 1 Y1)) : L_193_0 V g Y l1 l2 Q := by
  intro h lv R e0 e1 e2 e3
  refine y_next (pc' := 1) (xst_of (i := (.aload_n 3)) (len := 1) rfl rfl (x_aloadV (xisV_r _) e3)) ?_
  refine y_next (pc' := 2) (xst_of (i := (.iconst 0)) (len := 1) rfl rfl (x_ico (v := 0) (by decide))) ?_
  refine y_next (pc' := 3) (xst_of (i := (.aload_n 0)) (len := 1) rfl rfl (x_aloadV (xisV_r _) e0)) ?_
  refine y_next (pc' := 4) (xst_of (i := (.iload_n 1)) (len := 1) rfl rfl (x_ilo e1)) ?_
  refine y_next (pc' := 5) (xst_of (i := (.iload_n 2)) (len := 1) rfl rfl (x_ilo e2)) ?_
  refine z_cTI (k := 103) (i := (.invokevirtual 27)) (as := [.ref (g.2 (9, 0, 0) 0), .int l1, .int l2]) (rest := [.int 0, .ref (g.2 (12, 0, 0) 1)]) rfl rfl (x_callv rfl rfl (rc_ob R (rc_9 R) rfl) rfl rfl) (H _ _ R rfl rfl rfl) (fun x2 h Y1 R H => ?_) (fun e h Y1 R H => ⟨H.1, _, _, rfl, R, H.2⟩)
  refine y_next (pc' := 9) (xst_of (i := .i2l) (len := 1) rfl rfl rfl) ?_
  refine z_sL (t := (12, 0, 0)) (k := 0) (n := 1) (i := 0) rfl rfl (by decide) R (rc_12 R) H.1 (fun h Y3 hY R => ?_)
  replace H := H.2 Y3 hY
  clear hY
  refine y_next (pc' := 17) (xst_of (i := (.goto 7)) (len := 3) rfl rfl rfl) ?_
  refine y_next (pc' := 18) (xst_of (i := (.iconst 0)) (len := 1) rfl rfl (x_ico (v := 0) (by decide))) ?_
  exact y_ret (xst_of (i := .ireturn) (len := 1) rfl rfl rfl) ⟨_, _, rfl, R, H⟩
theorem l_194_0 {V : xV} {g : xG} {Y : xW} {l1 : Int32} {Q : Int32 → xW → Prop} (H : L_104_0 V g Y l1 (fun x2 Y1 => vp_in 0 1 ∧ ∀ Y3, Y3 = uL Y1 (12, 0, 0) 0 (Int32.toNatClampNeg 0) x2 → Q 0 Y3) (fun e Y1 => xhd 194 4 e = true ∧ Q 1 Y1)) : L_194_0 V g Y l1 Q := by
  intro h lv R e0 e1 e2
  refine y_next (pc' := 1) (xst_of (i := (.aload_n 2)) (len := 1) rfl rfl (x_aloadV (xisV_r _) e2)) ?_
  refine y_next (pc' := 2) (xst_of (i := (.iconst 0)) (len := 1) rfl rfl (x_ico (v := 0) (by decide))) ?_
  refine y_next (pc' := 3) (xst_of (i := (.aload_n 0)) (len := 1) rfl rfl (x_aloadV (xisV_r _) e0)) ?_
  refine y_next (pc' := 4) (xst_of (i := (.iload_n 1)) (len := 1) rfl rfl (x_ilo e1)) ?_
  refine z_cTL (k := 104) (i := (.invokevirtual 30)) (as := [.ref (g.2 (9, 0, 0) 0), .int l1]) (rest := [.int 0, .ref (g.2 (12, 0, 0) 1)]) rfl rfl (x_callv rfl rfl (rc_ob R (rc_9 R) rfl) rfl rfl) (H _ _ R rfl rfl) (fun x2 h Y1 R H => ?_) (fun e h Y1 R H => ⟨H.1, _, _, rfl, R, H.2⟩)
  refine z_sL (t := (12, 0, 0)) (k := 0) (n := 1) (i := 0) rfl rfl (by decide) R (rc_12 R) H.1 (fun h Y3 hY R => ?_)
  replace H := H.2 Y3 hY
  clear hY
  refine y_next (pc' := 14) (xst_of (i := (.goto 6)) (len := 3) rfl rfl rfl) ?_
  refine y_next (pc' := 15) (xst_of (i := (.iconst 0)) (len := 1) rfl rfl (x_ico (v := 0) (by decide))) ?_
  exact y_ret (xst_of (i := .ireturn) (len := 1) rfl rfl rfl) ⟨_, _, rfl, R, H⟩
theorem l_195_0 {V : xV} {g : xG} {Y : xW} {l1 : Int32} {l2 : Int32} {Q : Int32 → xW → Prop} (H : L_105_0 V g Y l1 l2 (fun x2 Y1 => vp_in 0 1 ∧ ∀ Y3, Y3 = uL Y1 (12, 0, 0) 0 (Int32.toNatClampNeg 0) (Int32.toInt64 x2) → Q 0 Y3) (fun e Y1 => xhd 195 5 e = true ∧ Q 1 Y1)) : L_195_0 V g Y l1 l2 Q := by
  intro h lv R e0 e1 e2 e3
  refine y_next (pc' := 1) (xst_of (i := (.aload_n 3)) (len := 1) rfl rfl (x_aloadV (xisV_r _) e3)) ?_
  refine y_next (pc' := 2) (xst_of (i := (.iconst 0)) (len := 1) rfl rfl (x_ico (v := 0) (by decide))) ?_
  refine y_next (pc' := 3) (xst_of (i := (.aload_n 0)) (len := 1) rfl rfl (x_aloadV (xisV_r _) e0)) ?_
  refine y_next (pc' := 4) (xst_of (i := (.iload_n 1)) (len := 1) rfl rfl (x_ilo e1)) ?_
  refine y_next (pc' := 5) (xst_of (i := (.iload_n 2)) (len := 1) rfl rfl (x_ilo e2)) ?_
  refine z_cTI (k := 105) (i := (.invokevirtual 34)) (as := [.ref (g.2 (9, 0, 0) 0), .int l1, .int l2]) (rest := [.int 0, .ref (g.2 (12, 0, 0) 1)]) rfl rfl (x_callv rfl rfl (rc_ob R (rc_9 R) rfl) rfl rfl) (H _ _ R rfl rfl rfl) (fun x2 h Y1 R H => ?_) (fun e h Y1 R H => ⟨H.1, _, _, rfl, R, H.2⟩)
  refine y_next (pc' := 9) (xst_of (i := .i2l) (len := 1) rfl rfl rfl) ?_
  refine z_sL (t := (12, 0, 0)) (k := 0) (n := 1) (i := 0) rfl rfl (by decide) R (rc_12 R) H.1 (fun h Y3 hY R => ?_)
  replace H := H.2 Y3 hY
  clear hY
  refine y_next (pc' := 17) (xst_of (i := (.goto 7)) (len := 3) rfl rfl rfl) ?_
  refine y_next (pc' := 18) (xst_of (i := (.iconst 0)) (len := 1) rfl rfl (x_ico (v := 0) (by decide))) ?_
  exact y_ret (xst_of (i := .ireturn) (len := 1) rfl rfl rfl) ⟨_, _, rfl, R, H⟩
theorem l_196_0 {V : xV} {g : xG} {Y : xW} {l1 : Int32} {Q : Int32 → xW → Prop} (H : L_106_0 V g Y l1 (fun x2 Y1 => vp_in 0 1 ∧ ∀ Y3, Y3 = uL Y1 (12, 0, 0) 0 (Int32.toNatClampNeg 0) (Int32.toInt64 x2) → Q 0 Y3) (fun e Y1 => xhd 196 4 e = true ∧ Q 1 Y1)) : L_196_0 V g Y l1 Q := by
  intro h lv R e0 e1 e2
  refine y_next (pc' := 1) (xst_of (i := (.aload_n 2)) (len := 1) rfl rfl (x_aloadV (xisV_r _) e2)) ?_
  refine y_next (pc' := 2) (xst_of (i := (.iconst 0)) (len := 1) rfl rfl (x_ico (v := 0) (by decide))) ?_
  refine y_next (pc' := 3) (xst_of (i := (.aload_n 0)) (len := 1) rfl rfl (x_aloadV (xisV_r _) e0)) ?_
  refine y_next (pc' := 4) (xst_of (i := (.iload_n 1)) (len := 1) rfl rfl (x_ilo e1)) ?_
  refine z_cTI (k := 106) (i := (.invokevirtual 37)) (as := [.ref (g.2 (9, 0, 0) 0), .int l1]) (rest := [.int 0, .ref (g.2 (12, 0, 0) 1)]) rfl rfl (x_callv rfl rfl (rc_ob R (rc_9 R) rfl) rfl rfl) (H _ _ R rfl rfl) (fun x2 h Y1 R H => ?_) (fun e h Y1 R H => ⟨H.1, _, _, rfl, R, H.2⟩)
  refine y_next (pc' := 8) (xst_of (i := .i2l) (len := 1) rfl rfl rfl) ?_
  refine z_sL (t := (12, 0, 0)) (k := 0) (n := 1) (i := 0) rfl rfl (by decide) R (rc_12 R) H.1 (fun h Y3 hY R => ?_)
  replace H := H.2 Y3 hY
  clear hY
  refine y_next (pc' := 15) (xst_of (i := (.goto 6)) (len := 3) rfl rfl rfl) ?_
  refine y_next (pc' := 16) (xst_of (i := (.iconst 0)) (len := 1) rfl rfl (x_ico (v := 0) (by decide))) ?_
  exact y_ret (xst_of (i := .ireturn) (len := 1) rfl rfl rfl) ⟨_, _, rfl, R, H⟩
theorem l_197_0 {V : xV} {g : xG} {Y : xW} {l1 : Int32} {Q : Int32 → xW → Prop} (H : L_107_0 V g Y l1 (fun x2 Y1 => vp_in 0 1 ∧ ∀ Y3, Y3 = uL Y1 (12, 0, 0) 0 (Int32.toNatClampNeg 0) (Int32.toInt64 x2) → Q 0 Y3) (fun e Y1 => xhd 197 4 e = true ∧ Q 1 Y1)) : L_197_0 V g Y l1 Q := by
  intro h lv R e0 e1 e2
  refine y_next (pc' := 1) (xst_of (i := (.aload_n 2)) (len := 1) rfl rfl (x_aloadV (xisV_r _) e2)) ?_
  refine y_next (pc' := 2) (xst_of (i := (.iconst 0)) (len := 1) rfl rfl (x_ico (v := 0) (by decide))) ?_
  refine y_next (pc' := 3) (xst_of (i := (.aload_n 0)) (len := 1) rfl rfl (x_aloadV (xisV_r _) e0)) ?_
  refine y_next (pc' := 4) (xst_of (i := (.iload_n 1)) (len := 1) rfl rfl (x_ilo e1)) ?_
  refine z_cTI (k := 107) (i := (.invokevirtual 40)) (as := [.ref (g.2 (9, 0, 0) 0), .int l1]) (rest := [.int 0, .ref (g.2 (12, 0, 0) 1)]) rfl rfl (x_callv rfl rfl (rc_ob R (rc_9 R) rfl) rfl rfl) (H _ _ R rfl rfl) (fun x2 h Y1 R H => ?_) (fun e h Y1 R H => ⟨H.1, _, _, rfl, R, H.2⟩)
  refine y_next (pc' := 8) (xst_of (i := .i2l) (len := 1) rfl rfl rfl) ?_
  refine z_sL (t := (12, 0, 0)) (k := 0) (n := 1) (i := 0) rfl rfl (by decide) R (rc_12 R) H.1 (fun h Y3 hY R => ?_)
  replace H := H.2 Y3 hY
  clear hY
  refine y_next (pc' := 15) (xst_of (i := (.goto 6)) (len := 3) rfl rfl rfl) ?_
  refine y_next (pc' := 16) (xst_of (i := (.iconst 0)) (len := 1) rfl rfl (x_ico (v := 0) (by decide))) ?_
  exact y_ret (xst_of (i := .ireturn) (len := 1) rfl rfl rfl) ⟨_, _, rfl, R, H⟩
