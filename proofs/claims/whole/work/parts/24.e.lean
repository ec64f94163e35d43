theorem l_58_0 {V : xV} {g : xG} {Y : xW} {l1 : Int32} {Q : Int32 → xW → Prop} (H : Q (((fI Y (6, 0, 0) 1) + l1) - ((fI Y (6, 0, 0) 1) + l1) / 40 * 40) Y) : L_58_0 V g Y l1 Q := by
  intro h lv R e0 e1
  refine y_next (pc' := 1) (xst_of (i := (.aload_n 0)) (len := 1) rfl rfl (x_aloadV (xisV_r _) e0)) ?_
  refine z_gI (t := (6, 0, 0)) (k := 1) rfl rfl rfl R (rc_6 R) ?_
  refine y_next (pc' := 5) (xst_of (i := (.iload_n 1)) (len := 1) rfl rfl (x_ilo e1)) ?_
  refine y_next (pc' := 6) (xst_of (i := .iadd) (len := 1) rfl rfl rfl) ?_
  refine y_next (pc' := 8) (xst_of (i := (.bipush 40)) (len := 2) rfl rfl (x_bip (v := 40) (by decide))) ?_
  refine y_next (pc' := 9) (xst_of (i := .irem) (len := 1) rfl rfl (x_irem (by decide))) ?_
  exact y_ret (xst_of (i := .ireturn) (len := 1) rfl rfl rfl) ⟨_, _, rfl, R, H⟩
theorem l_59_0 {V : xV} {g : xG} {Y : xW} {l1 : Int32} {Q : Int32 → xW → Prop} (H : ((l1 < 0) → L_59_25 V g Y l1 Q) ∧ (¬ (l1 < 0) → (((fI Y (6, 0, 0) 2) ≤ l1) → L_59_25 V g Y l1 Q) ∧ (¬ ((fI Y (6, 0, 0) 2) ≤ l1) → L_58_0 V g Y l1 (fun x2 Y1 => vp_in x2 40 ∧ L_59_26 V g Y1 l1 (fA Y1 (6, 0, 0) 0 (Int32.toNatClampNeg x2)) Q)))) : L_59_0 V g Y l1 Q := by
  intro h lv R e0 e1
  refine y_next (pc' := 1) (xst_of (i := (.iload_n 1)) (len := 1) rfl rfl (x_ilo e1)) ?_
  by_cases hc : l1 < 0
  · replace H := H.1 hc
    refine y_next (xst_of (i := (.ifCond .lt 24)) (len := 3) rfl rfl (xt_if_lt (t := 25) rfl hc)) ?_
    exact H _ _ R e0 e1
  · replace H := H.2 hc
    refine y_next (pc' := 4) (xst_of (i := (.ifCond .lt 24)) (len := 3) rfl rfl (xf_if_lt (t := 25) rfl hc)) ?_
    refine y_next (pc' := 5) (xst_of (i := (.iload_n 1)) (len := 1) rfl rfl (x_ilo e1)) ?_
    refine y_next (pc' := 6) (xst_of (i := (.aload_n 0)) (len := 1) rfl rfl (x_aloadV (xisV_r _) e0)) ?_
    refine z_gI (t := (6, 0, 0)) (k := 2) rfl rfl rfl R (rc_6 R) ?_
    by_cases hc : (fI Y (6, 0, 0) 2) ≤ l1
    · replace H := H.1 hc
      refine y_next (xst_of (i := (.if_icmp .ge 16)) (len := 3) rfl rfl (xt_icmp_ge (t := 25) rfl hc)) ?_
      exact H _ _ R e0 e1
    · replace H := H.2 hc
      refine y_next (pc' := 12) (xst_of (i := (.if_icmp .ge 16)) (len := 3) rfl rfl (xf_icmp_ge (t := 25) rfl hc)) ?_
      refine y_next (pc' := 13) (xst_of (i := (.aload_n 0)) (len := 1) rfl rfl (x_aloadV (xisV_r _) e0)) ?_
      refine z_gA (t := (6, 0, 0)) (k := 0) rfl rfl rfl R (rc_6 R) ?_
      refine y_next (pc' := 17) (xst_of (i := (.aload_n 0)) (len := 1) rfl rfl (x_aloadV (xisV_r _) e0)) ?_
      refine y_next (pc' := 18) (xst_of (i := (.iload_n 1)) (len := 1) rfl rfl (x_ilo e1)) ?_
      refine z_cI (k := 58) (i := (.invokevirtual 22)) (as := [.ref (g.2 (6, 0, 0) 0), .int l1]) (rest := [.ref (g.2 (6, 0, 0) 1)]) rfl rfl (x_callv rfl rfl (rc_ob R (rc_6 R) rfl) rfl rfl) (H _ _ R rfl rfl) (fun x2 h Y1 R H => ?_)
      refine z_aI (t := (6, 0, 0)) (k := 0) (n := 40) (i := x2) rfl rfl R (rc_6 R) H.1 ?_
      replace H := H.2
      refine y_next (pc' := 26) (xst_of (i := (.goto 4)) (len := 3) rfl rfl rfl) ?_
      exact H _ _ R e0 e1
theorem l_59_25 {V : xV} {g : xG} {Y : xW} {l1 : Int32} {Q : Int32 → xW → Prop} (H : L_59_26 V g Y l1 (-1) Q) : L_59_25 V g Y l1 Q := by
  intro h lv R e0 e1
  refine y_next (pc' := 26) (xst_of (i := (.iconst (-1))) (len := 1) rfl rfl (x_ico (v := (-1)) (by decide))) ?_
  exact H _ _ R e0 e1
theorem l_59_26 {V : xV} {g : xG} {Y : xW} {l1 : Int32} {s0 : Int32} {Q : Int32 → xW → Prop} (H : Q s0 Y) : L_59_26 V g Y l1 s0 Q := by
  intro h lv R e0 e1
  exact y_ret (xst_of (i := .ireturn) (len := 1) rfl rfl rfl) ⟨_, _, rfl, R, H⟩
theorem l_60_0 {V : xV} {g : xG} {Y : xW} {l1 : Int32} {Q : Int32 → xW → Prop} (H : L_60_2 V g Y l1 0 Q) : L_60_0 V g Y l1 Q := by
  intro h lv R e0 e1
  refine y_next (pc' := 1) (xst_of (i := (.iconst 0)) (len := 1) rfl rfl (x_ico (v := 0) (by decide))) ?_
  refine z_is (i := (.istore_n 2)) (len := 1) (pc' := 2) (q := 2) rfl rfl rfl (by decide) (fun lv1 hlv => ?_)
  have e0 := xs1_A hlv e0 rfl rfl
  have e1 := xs1_B hlv e1 rfl rfl
  have e2 := xs1_N hlv
  clear hlv
  exact H _ _ R e0 e1 e2
theorem l_60_2 {V : xV} {g : xG} {Y : xW} {l1 : Int32} {l2 : Int32} {Q : Int32 → xW → Prop} (H : (((fI Y (6, 0, 0) 2) ≤ l2) → Q (-1) Y) ∧ (¬ ((fI Y (6, 0, 0) 2) ≤ l2) → L_59_0 V g Y l2 (fun x2 Y1 => ((x2 = l1) → Q l2 Y1) ∧ (¬ (x2 = l1) → L_60_2 V g Y1 l1 (l2 + 1) Q)))) : L_60_2 V g Y l1 l2 Q := by
  intro h lv R e0 e1 e2
  refine y_next (pc' := 3) (xst_of (i := (.iload_n 2)) (len := 1) rfl rfl (x_ilo e2)) ?_
  refine y_next (pc' := 4) (xst_of (i := (.aload_n 0)) (len := 1) rfl rfl (x_aloadV (xisV_r _) e0)) ?_
  refine z_gI (t := (6, 0, 0)) (k := 2) rfl rfl rfl R (rc_6 R) ?_
  by_cases hc : (fI Y (6, 0, 0) 2) ≤ l2
  · replace H := H.1 hc
    refine y_next (xst_of (i := (.if_icmp .ge 20)) (len := 3) rfl rfl (xt_icmp_ge (t := 27) rfl hc)) ?_
    refine y_next (pc' := 28) (xst_of (i := (.iconst (-1))) (len := 1) rfl rfl (x_ico (v := (-1)) (by decide))) ?_
    exact y_ret (xst_of (i := .ireturn) (len := 1) rfl rfl rfl) ⟨_, _, rfl, R, H⟩
  · replace H := H.2 hc
    refine y_next (pc' := 10) (xst_of (i := (.if_icmp .ge 20)) (len := 3) rfl rfl (xf_icmp_ge (t := 27) rfl hc)) ?_
    refine y_next (pc' := 11) (xst_of (i := (.aload_n 0)) (len := 1) rfl rfl (x_aloadV (xisV_r _) e0)) ?_
    refine y_next (pc' := 12) (xst_of (i := (.iload_n 2)) (len := 1) rfl rfl (x_ilo e2)) ?_
    refine z_cI (k := 59) (i := (.invokevirtual 26)) (as := [.ref (g.2 (6, 0, 0) 0), .int l2]) (rest := []) rfl rfl (x_callv rfl rfl (rc_ob R (rc_6 R) rfl) rfl rfl) (H _ _ R rfl rfl) (fun x2 h Y1 R H => ?_)
    refine y_next (pc' := 16) (xst_of (i := (.iload_n 1)) (len := 1) rfl rfl (x_ilo e1)) ?_
    by_cases hc : x2 = l1
    · replace H := H.1 hc
      refine y_next (pc' := 19) (xst_of (i := (.if_icmp .ne 5)) (len := 3) rfl rfl (xf_icmp_ne (t := 21) rfl (fun z => z hc))) ?_
      refine y_next (pc' := 20) (xst_of (i := (.iload_n 2)) (len := 1) rfl rfl (x_ilo e2)) ?_
      exact y_ret (xst_of (i := .ireturn) (len := 1) rfl rfl rfl) ⟨_, _, rfl, R, H⟩
    · replace H := H.2 hc
      refine y_next (xst_of (i := (.if_icmp .ne 5)) (len := 3) rfl rfl (xt_icmp_ne (t := 21) rfl hc)) ?_
      refine z_in (q := 2) (n := 1) (v := 1) rfl e2 (by decide) (by decide) (fun lv1 hlv => ?_)
      have e0 := xs1_A hlv e0 rfl rfl
      have e1 := xs1_B hlv e1 rfl rfl
      have e2 := xs1_N hlv
      clear hlv
      refine y_next (pc' := 2) (xst_of (i := (.goto (-22))) (len := 3) rfl rfl rfl) ?_
      exact H _ _ R e0 e1 e2
theorem l_61_0 {V : xV} {g : xG} {Y : xW} {l1 : Int32} {Q : xW → Prop} (H : ((40 ≤ (fI Y (6, 0, 0) 2)) → L_61_33 V g Y l1 Q) ∧ (¬ (40 ≤ (fI Y (6, 0, 0) 2)) → L_58_0 V g Y (fI Y (6, 0, 0) 2) (fun x2 Y1 => vp_in x2 40 ∧ ∀ Y3, Y3 = uA Y1 (6, 0, 0) 0 (Int32.toNatClampNeg x2) l1 → ∀ Y4, Y4 = uI Y3 (6, 0, 0) 2 ((fI Y3 (6, 0, 0) 2) + 1) → L_61_33 V g Y4 l1 Q))) : L_61_0 V g Y l1 Q := by
  intro h lv R e0 e1
  refine y_next (pc' := 1) (xst_of (i := (.aload_n 0)) (len := 1) rfl rfl (x_aloadV (xisV_r _) e0)) ?_
  refine z_gI (t := (6, 0, 0)) (k := 2) rfl rfl rfl R (rc_6 R) ?_
  refine y_next (pc' := 6) (xst_of (i := (.bipush 40)) (len := 2) rfl rfl (x_bip (v := 40) (by decide))) ?_
  by_cases hc : 40 ≤ (fI Y (6, 0, 0) 2)
  · replace H := H.1 hc
    refine y_next (xst_of (i := (.if_icmp .ge 27)) (len := 3) rfl rfl (xt_icmp_ge (t := 33) rfl hc)) ?_
    exact H _ _ R e0 e1
  · replace H := H.2 hc
    refine y_next (pc' := 9) (xst_of (i := (.if_icmp .ge 27)) (len := 3) rfl rfl (xf_icmp_ge (t := 33) rfl hc)) ?_
    refine y_next (pc' := 10) (xst_of (i := (.aload_n 0)) (len := 1) rfl rfl (x_aloadV (xisV_r _) e0)) ?_
    refine z_gA (t := (6, 0, 0)) (k := 0) rfl rfl rfl R (rc_6 R) ?_
    refine y_next (pc' := 14) (xst_of (i := (.aload_n 0)) (len := 1) rfl rfl (x_aloadV (xisV_r _) e0)) ?_
    refine y_next (pc' := 15) (xst_of (i := (.aload_n 0)) (len := 1) rfl rfl (x_aloadV (xisV_r _) e0)) ?_
    refine z_gI (t := (6, 0, 0)) (k := 2) rfl rfl rfl R (rc_6 R) ?_
    refine z_cI (k := 58) (i := (.invokevirtual 22)) (as := [.ref (g.2 (6, 0, 0) 0), .int (fI Y (6, 0, 0) 2)]) (rest := [.ref (g.2 (6, 0, 0) 1)]) rfl rfl (x_callv rfl rfl (rc_ob R (rc_6 R) rfl) rfl rfl) (H _ _ R rfl rfl) (fun x2 h Y1 R H => ?_)
    refine y_next (pc' := 22) (xst_of (i := (.iload_n 1)) (len := 1) rfl rfl (x_ilo e1)) ?_
    refine z_sI (t := (6, 0, 0)) (k := 0) (n := 40) (i := x2) rfl rfl R (rc_6 R) H.1 (fun h Y3 hY R => ?_)
    replace H := H.2 Y3 hY
    clear hY
    refine y_next (pc' := 24) (xst_of (i := (.aload_n 0)) (len := 1) rfl rfl (x_aloadV (xisV_r _) e0)) ?_
    refine y_next (pc' := 25) (xst_of (i := .dup) (len := 1) rfl rfl (x_dup rfl)) ?_
    refine z_gI (t := (6, 0, 0)) (k := 2) rfl rfl rfl R (rc_6 R) ?_
    refine y_next (pc' := 29) (xst_of (i := (.iconst 1)) (len := 1) rfl rfl (x_ico (v := 1) (by decide))) ?_
    refine y_next (pc' := 30) (xst_of (i := .iadd) (len := 1) rfl rfl rfl) ?_
    refine z_pI (t := (6, 0, 0)) (k := 2) rfl rfl rfl rfl rfl R (rc_6 R) (fun h Y4 hY R => ?_)
    replace H := H Y4 hY
    clear hY
    exact H _ _ R e0 e1
theorem l_61_33 {V : xV} {g : xG} {Y : xW} {l1 : Int32} {Q : xW → Prop} (H : Q Y) : L_61_33 V g Y l1 Q := by
  intro h lv R e0 e1
  exact y_ret (xst_of (i := .return_) (len := 1) rfl rfl rfl) ⟨_, rfl, R, H⟩
theorem l_62_0 {V : xV} {g : xG} {Y : xW}  {Q : xW → Prop} (H : (((fI Y (6, 0, 0) 2) ≤ 0) → L_62_38 V g Y  Q) ∧ (¬ ((fI Y (6, 0, 0) 2) ≤ 0) → L_59_0 V g Y 0 (fun x2 Y1 => L_58_0 V g Y1 1 (fun x4 Y3 => ∀ Y5, Y5 = uI Y3 (6, 0, 0) 1 x4 → L_58_0 V g Y5 ((fI Y5 (6, 0, 0) 2) - 1) (fun x7 Y6 => vp_in x7 40 ∧ ∀ Y8, Y8 = uA Y6 (6, 0, 0) 0 (Int32.toNatClampNeg x7) x2 → L_62_38 V g Y8  Q))))) : L_62_0 V g Y  Q := by
  intro h lv R e0
  refine y_next (pc' := 1) (xst_of (i := (.aload_n 0)) (len := 1) rfl rfl (x_aloadV (xisV_r _) e0)) ?_
  refine z_gI (t := (6, 0, 0)) (k := 2) rfl rfl rfl R (rc_6 R) ?_
  by_cases hc : (fI Y (6, 0, 0) 2) ≤ 0
  · replace H := H.1 hc
    refine y_next (xst_of (i := (.ifCond .le 34)) (len := 3) rfl rfl (xt_if_le (t := 38) rfl hc)) ?_
    exact H _ _ R e0
  · replace H := H.2 hc
    refine y_next (pc' := 7) (xst_of (i := (.ifCond .le 34)) (len := 3) rfl rfl (xf_if_le (t := 38) rfl hc)) ?_
    refine y_next (pc' := 8) (xst_of (i := (.aload_n 0)) (len := 1) rfl rfl (x_aloadV (xisV_r _) e0)) ?_
    refine y_next (pc' := 9) (xst_of (i := (.iconst 0)) (len := 1) rfl rfl (x_ico (v := 0) (by decide))) ?_
    refine z_cI (k := 59) (i := (.invokevirtual 26)) (as := [.ref (g.2 (6, 0, 0) 0), .int 0]) (rest := []) rfl rfl (x_callv rfl rfl (rc_ob R (rc_6 R) rfl) rfl rfl) (H _ _ R rfl rfl) (fun x2 h Y1 R H => ?_)
    refine z_is (i := (.istore_n 1)) (len := 1) (pc' := 13) (q := 1) rfl rfl rfl (by decide) (fun lv1 hlv => ?_)
    have e0 := xs1_B hlv e0 rfl rfl
    have e1 := xs1_N hlv
    clear hlv
    refine y_next (pc' := 14) (xst_of (i := (.aload_n 0)) (len := 1) rfl rfl (x_aloadV (xisV_r _) e0)) ?_
    refine y_next (pc' := 15) (xst_of (i := (.aload_n 0)) (len := 1) rfl rfl (x_aloadV (xisV_r _) e0)) ?_
    refine y_next (pc' := 16) (xst_of (i := (.iconst 1)) (len := 1) rfl rfl (x_ico (v := 1) (by decide))) ?_
    refine z_cI (k := 58) (i := (.invokevirtual 22)) (as := [.ref (g.2 (6, 0, 0) 0), .int 1]) (rest := [.ref (g.2 (6, 0, 0) 0)]) rfl rfl (x_callv rfl rfl (rc_ob R (rc_6 R) rfl) rfl rfl) (H _ _ R rfl rfl) (fun x4 h Y3 R H => ?_)
    refine z_pI (t := (6, 0, 0)) (k := 1) rfl rfl rfl rfl rfl R (rc_6 R) (fun h Y5 hY R => ?_)
    replace H := H Y5 hY
    clear hY
    refine y_next (pc' := 23) (xst_of (i := (.aload_n 0)) (len := 1) rfl rfl (x_aloadV (xisV_r _) e0)) ?_
    refine z_gA (t := (6, 0, 0)) (k := 0) rfl rfl rfl R (rc_6 R) ?_
    refine y_next (pc' := 27) (xst_of (i := (.aload_n 0)) (len := 1) rfl rfl (x_aloadV (xisV_r _) e0)) ?_
    refine y_next (pc' := 28) (xst_of (i := (.aload_n 0)) (len := 1) rfl rfl (x_aloadV (xisV_r _) e0)) ?_
    refine z_gI (t := (6, 0, 0)) (k := 2) rfl rfl rfl R (rc_6 R) ?_
    refine y_next (pc' := 32) (xst_of (i := (.iconst 1)) (len := 1) rfl rfl (x_ico (v := 1) (by decide))) ?_
    refine y_next (pc' := 33) (xst_of (i := .isub) (len := 1) rfl rfl rfl) ?_
    refine z_cI (k := 58) (i := (.invokevirtual 22)) (as := [.ref (g.2 (6, 0, 0) 0), .int ((fI Y5 (6, 0, 0) 2) - 1)]) (rest := [.ref (g.2 (6, 0, 0) 1)]) rfl rfl (x_callv rfl rfl (rc_ob R (rc_6 R) rfl) rfl rfl) (H _ _ R rfl rfl) (fun x7 h Y6 R H => ?_)
    refine y_next (pc' := 37) (xst_of (i := (.iload_n 1)) (len := 1) rfl rfl (x_ilo e1)) ?_
    refine z_sI (t := (6, 0, 0)) (k := 0) (n := 40) (i := x7) rfl rfl R (rc_6 R) H.1 (fun h Y8 hY R => ?_)
    replace H := H.2 Y8 hY
    clear hY
    exact H _ _ R e0
theorem l_62_38 {V : xV} {g : xG} {Y : xW}  {Q : xW → Prop} (H : Q Y) : L_62_38 V g Y  Q := by
  intro h lv R e0
  exact y_ret (xst_of (i := .return_) (len := 1) rfl rfl rfl) ⟨_, rfl, R, H⟩
theorem l_63_0 {V : xV} {g : xG} {Y : xW} {l1 : Int32} {Q : xW → Prop} (H : ((l1 < 0) → L_63_12 V g Y l1 Q) ∧ (¬ (l1 < 0) → ((l1 < (fI Y (6, 0, 0) 2)) → L_63_15 V g Y l1 l1 Q) ∧ (¬ (l1 < (fI Y (6, 0, 0) 2)) → L_63_12 V g Y l1 Q))) : L_63_0 V g Y l1 Q := by
  intro h lv R e0 e1
  refine y_next (pc' := 1) (xst_of (i := (.iload_n 1)) (len := 1) rfl rfl (x_ilo e1)) ?_
  by_cases hc : l1 < 0
  · replace H := H.1 hc
    refine y_next (xst_of (i := (.ifCond .lt 11)) (len := 3) rfl rfl (xt_if_lt (t := 12) rfl hc)) ?_
    exact H _ _ R e0 e1
  · replace H := H.2 hc
    refine y_next (pc' := 4) (xst_of (i := (.ifCond .lt 11)) (len := 3) rfl rfl (xf_if_lt (t := 12) rfl hc)) ?_
    refine y_next (pc' := 5) (xst_of (i := (.iload_n 1)) (len := 1) rfl rfl (x_ilo e1)) ?_
    refine y_next (pc' := 6) (xst_of (i := (.aload_n 0)) (len := 1) rfl rfl (x_aloadV (xisV_r _) e0)) ?_
    refine z_gI (t := (6, 0, 0)) (k := 2) rfl rfl rfl R (rc_6 R) ?_
    by_cases hc : l1 < (fI Y (6, 0, 0) 2)
    · replace H := H.1 hc
      refine y_next (xst_of (i := (.if_icmp .lt 4)) (len := 3) rfl rfl (xt_icmp_lt (t := 13) rfl hc)) ?_
      refine y_next (pc' := 14) (xst_of (i := (.iload_n 1)) (len := 1) rfl rfl (x_ilo e1)) ?_
      refine z_is (i := (.istore_n 2)) (len := 1) (pc' := 15) (q := 2) rfl rfl rfl (by decide) (fun lv1 hlv => ?_)
      have e0 := xs1_A hlv e0 rfl rfl
      have e1 := xs1_B hlv e1 rfl rfl
      have e2 := xs1_N hlv
      clear hlv
      exact H _ _ R e0 e1 e2
    · replace H := H.2 hc
      refine y_next (pc' := 12) (xst_of (i := (.if_icmp .lt 4)) (len := 3) rfl rfl (xf_icmp_lt (t := 13) rfl hc)) ?_
      exact H _ _ R e0 e1
theorem l_63_12 {V : xV} {g : xG} {Y : xW} {l1 : Int32} {Q : xW → Prop} (H : Q Y) : L_63_12 V g Y l1 Q := by
  intro h lv R e0 e1
  exact y_ret (xst_of (i := .return_) (len := 1) rfl rfl rfl) ⟨_, rfl, R, H⟩
theorem l_63_15 {V : xV} {g : xG} {Y : xW} {l1 : Int32} {l2 : Int32} {Q : xW → Prop} (H : ((((fI Y (6, 0, 0) 2) - 1) ≤ l2) → ∀ Y1, Y1 = uI Y (6, 0, 0) 2 ((fI Y (6, 0, 0) 2) - 1) → Q Y1) ∧ (¬ (((fI Y (6, 0, 0) 2) - 1) ≤ l2) → L_58_0 V g Y l2 (fun x3 Y2 => L_59_0 V g Y2 (l2 + 1) (fun x5 Y4 => vp_in x3 40 ∧ ∀ Y6, Y6 = uA Y4 (6, 0, 0) 0 (Int32.toNatClampNeg x3) x5 → L_63_15 V g Y6 l1 (l2 + 1) Q)))) : L_63_15 V g Y l1 l2 Q := by
  intro h lv R e0 e1 e2
  refine y_next (pc' := 16) (xst_of (i := (.iload_n 2)) (len := 1) rfl rfl (x_ilo e2)) ?_
  refine y_next (pc' := 17) (xst_of (i := (.aload_n 0)) (len := 1) rfl rfl (x_aloadV (xisV_r _) e0)) ?_
  refine z_gI (t := (6, 0, 0)) (k := 2) rfl rfl rfl R (rc_6 R) ?_
  refine y_next (pc' := 21) (xst_of (i := (.iconst 1)) (len := 1) rfl rfl (x_ico (v := 1) (by decide))) ?_
  refine y_next (pc' := 22) (xst_of (i := .isub) (len := 1) rfl rfl rfl) ?_
  by_cases hc : ((fI Y (6, 0, 0) 2) - 1) ≤ l2
  · replace H := H.1 hc
    refine y_next (xst_of (i := (.if_icmp .ge 26)) (len := 3) rfl rfl (xt_icmp_ge (t := 48) rfl hc)) ?_
    refine y_next (pc' := 49) (xst_of (i := (.aload_n 0)) (len := 1) rfl rfl (x_aloadV (xisV_r _) e0)) ?_
    refine y_next (pc' := 50) (xst_of (i := .dup) (len := 1) rfl rfl (x_dup rfl)) ?_
    refine z_gI (t := (6, 0, 0)) (k := 2) rfl rfl rfl R (rc_6 R) ?_
    refine y_next (pc' := 54) (xst_of (i := (.iconst 1)) (len := 1) rfl rfl (x_ico (v := 1) (by decide))) ?_
    refine y_next (pc' := 55) (xst_of (i := .isub) (len := 1) rfl rfl rfl) ?_
    refine z_pI (t := (6, 0, 0)) (k := 2) rfl rfl rfl rfl rfl R (rc_6 R) (fun h Y1 hY R => ?_)
    replace H := H Y1 hY
    clear hY
    exact y_ret (xst_of (i := .return_) (len := 1) rfl rfl rfl) ⟨_, rfl, R, H⟩
  · replace H := H.2 hc
    refine y_next (pc' := 25) (xst_of (i := (.if_icmp .ge 26)) (len := 3) rfl rfl (xf_icmp_ge (t := 48) rfl hc)) ?_
    refine y_next (pc' := 26) (xst_of (i := (.aload_n 0)) (len := 1) rfl rfl (x_aloadV (xisV_r _) e0)) ?_
    refine z_gA (t := (6, 0, 0)) (k := 0) rfl rfl rfl R (rc_6 R) ?_
    refine y_next (pc' := 30) (xst_of (i := (.aload_n 0)) (len := 1) rfl rfl (x_aloadV (xisV_r _) e0)) ?_
    refine y_next (pc' := 31) (xst_of (i := (.iload_n 2)) (len := 1) rfl rfl (x_ilo e2)) ?_
    refine z_cI (k := 58) (i := (.invokevirtual 22)) (as := [.ref (g.2 (6, 0, 0) 0), .int l2]) (rest := [.ref (g.2 (6, 0, 0) 1)]) rfl rfl (x_callv rfl rfl (rc_ob R (rc_6 R) rfl) rfl rfl) (H _ _ R rfl rfl) (fun x3 h Y2 R H => ?_)
    refine y_next (pc' := 35) (xst_of (i := (.aload_n 0)) (len := 1) rfl rfl (x_aloadV (xisV_r _) e0)) ?_
    refine y_next (pc' := 36) (xst_of (i := (.iload_n 2)) (len := 1) rfl rfl (x_ilo e2)) ?_
    refine y_next (pc' := 37) (xst_of (i := (.iconst 1)) (len := 1) rfl rfl (x_ico (v := 1) (by decide))) ?_
    refine y_next (pc' := 38) (xst_of (i := .iadd) (len := 1) rfl rfl rfl) ?_
    refine z_cI (k := 59) (i := (.invokevirtual 26)) (as := [.ref (g.2 (6, 0, 0) 0), .int (l2 + 1)]) (rest := [.int x3, .ref (g.2 (6, 0, 0) 1)]) rfl rfl (x_callv rfl rfl (rc_ob R (rc_6 R) rfl) rfl rfl) (H _ _ R rfl rfl) (fun x5 h Y4 R H => ?_)
    refine z_sI (t := (6, 0, 0)) (k := 0) (n := 40) (i := x3) rfl rfl R (rc_6 R) H.1 (fun h Y6 hY R => ?_)
    replace H := H.2 Y6 hY
    clear hY
    refine z_in (q := 2) (n := 1) (v := 1) rfl e2 (by decide) (by decide) (fun lv1 hlv => ?_)
    have e0 := xs1_A hlv e0 rfl rfl
    have e1 := xs1_B hlv e1 rfl rfl
    have e2 := xs1_N hlv
    clear hlv
    refine y_next (pc' := 15) (xst_of (i := (.goto (-30))) (len := 3) rfl rfl rfl) ?_
    exact H _ _ R e0 e1 e2
theorem l_65_0 {V : xV} {g : xG} {Y : xW} {l1 : Int32} {Q : Int32 → xW → Prop} (H : ((l1 < 0) → L_65_20 V g Y l1 Q) ∧ (¬ (l1 < 0) → ((4096 ≤ l1) → L_65_20 V g Y l1 Q) ∧ (¬ (4096 ≤ l1) → vp_in l1 4096 ∧ L_65_21 V g Y l1 (fA Y (7, 0, 0) 0 (Int32.toNatClampNeg l1)) Q))) : L_65_0 V g Y l1 Q := by
  intro h lv R e0 e1
  refine y_next (pc' := 1) (xst_of (i := (.iload_n 1)) (len := 1) rfl rfl (x_ilo e1)) ?_
  by_cases hc : l1 < 0
  · replace H := H.1 hc
    refine y_next (xst_of (i := (.ifCond .lt 19)) (len := 3) rfl rfl (xt_if_lt (t := 20) rfl hc)) ?_
    exact H _ _ R e0 e1
  · replace H := H.2 hc
    refine y_next (pc' := 4) (xst_of (i := (.ifCond .lt 19)) (len := 3) rfl rfl (xf_if_lt (t := 20) rfl hc)) ?_
    refine y_next (pc' := 5) (xst_of (i := (.iload_n 1)) (len := 1) rfl rfl (x_ilo e1)) ?_
    refine y_next (pc' := 8) (xst_of (i := (.sipush 4096)) (len := 3) rfl rfl (x_sip (v := 4096) (by decide))) ?_
    by_cases hc : 4096 ≤ l1
    · replace H := H.1 hc
      refine y_next (xst_of (i := (.if_icmp .ge 12)) (len := 3) rfl rfl (xt_icmp_ge (t := 20) rfl hc)) ?_
      exact H _ _ R e0 e1
    · replace H := H.2 hc
      refine y_next (pc' := 11) (xst_of (i := (.if_icmp .ge 12)) (len := 3) rfl rfl (xf_icmp_ge (t := 20) rfl hc)) ?_
      refine y_next (pc' := 12) (xst_of (i := (.aload_n 0)) (len := 1) rfl rfl (x_aloadV (xisV_r _) e0)) ?_
      refine z_gA (t := (7, 0, 0)) (k := 0) rfl rfl rfl R (rc_7 R) ?_
      refine y_next (pc' := 16) (xst_of (i := (.iload_n 1)) (len := 1) rfl rfl (x_ilo e1)) ?_
      refine z_aI (t := (7, 0, 0)) (k := 0) (n := 4096) (i := l1) rfl rfl R (rc_7 R) H.1 ?_
      replace H := H.2
      refine y_next (pc' := 21) (xst_of (i := (.goto 4)) (len := 3) rfl rfl rfl) ?_
      exact H _ _ R e0 e1
theorem l_65_20 {V : xV} {g : xG} {Y : xW} {l1 : Int32} {Q : Int32 → xW → Prop} (H : L_65_21 V g Y l1 0 Q) : L_65_20 V g Y l1 Q := by
  intro h lv R e0 e1
  refine y_next (pc' := 21) (xst_of (i := (.iconst 0)) (len := 1) rfl rfl (x_ico (v := 0) (by decide))) ?_
  exact H _ _ R e0 e1
theorem l_65_21 {V : xV} {g : xG} {Y : xW} {l1 : Int32} {s0 : Int32} {Q : Int32 → xW → Prop} (H : Q s0 Y) : L_65_21 V g Y l1 s0 Q := by
  intro h lv R e0 e1
  exact y_ret (xst_of (i := .ireturn) (len := 1) rfl rfl rfl) ⟨_, _, rfl, R, H⟩
theorem l_66_0 {V : xV} {g : xG} {Y : xW} {l1 : Int32} {l2 : Int32} {Q : xW → Prop} (H : ((l1 < 0) → L_66_18 V g Y l1 l2 Q) ∧ (¬ (l1 < 0) → ((4096 ≤ l1) → L_66_18 V g Y l1 l2 Q) ∧ (¬ (4096 ≤ l1) → vp_in l1 4096 ∧ ∀ Y1, Y1 = uA Y (7, 0, 0) 0 (Int32.toNatClampNeg l1) l2 → L_66_18 V g Y1 l1 l2 Q))) : L_66_0 V g Y l1 l2 Q := by
  intro h lv R e0 e1 e2
  refine y_next (pc' := 1) (xst_of (i := (.iload_n 1)) (len := 1) rfl rfl (x_ilo e1)) ?_
  by_cases hc : l1 < 0
  · replace H := H.1 hc
    refine y_next (xst_of (i := (.ifCond .lt 17)) (len := 3) rfl rfl (xt_if_lt (t := 18) rfl hc)) ?_
    exact H _ _ R e0 e1 e2
  · replace H := H.2 hc
    refine y_next (pc' := 4) (xst_of (i := (.ifCond .lt 17)) (len := 3) rfl rfl (xf_if_lt (t := 18) rfl hc)) ?_
    refine y_next (pc' := 5) (xst_of (i := (.iload_n 1)) (len := 1) rfl rfl (x_ilo e1)) ?_
    refine y_next (pc' := 8) (xst_of (i := (.sipush 4096)) (len := 3) rfl rfl (x_sip (v := 4096) (by decide))) ?_
    by_cases hc : 4096 ≤ l1
    · replace H := H.1 hc
      refine y_next (xst_of (i := (.if_icmp .ge 10)) (len := 3) rfl rfl (xt_icmp_ge (t := 18) rfl hc)) ?_
      exact H _ _ R e0 e1 e2
    · replace H := H.2 hc
      refine y_next (pc' := 11) (xst_of (i := (.if_icmp .ge 10)) (len := 3) rfl rfl (xf_icmp_ge (t := 18) rfl hc)) ?_
      refine y_next (pc' := 12) (xst_of (i := (.aload_n 0)) (len := 1) rfl rfl (x_aloadV (xisV_r _) e0)) ?_
      refine z_gA (t := (7, 0, 0)) (k := 0) rfl rfl rfl R (rc_7 R) ?_
      refine y_next (pc' := 16) (xst_of (i := (.iload_n 1)) (len := 1) rfl rfl (x_ilo e1)) ?_
      refine y_next (pc' := 17) (xst_of (i := (.iload_n 2)) (len := 1) rfl rfl (x_ilo e2)) ?_
      refine z_sI (t := (7, 0, 0)) (k := 0) (n := 4096) (i := l1) rfl rfl R (rc_7 R) H.1 (fun h Y1 hY R => ?_)
      replace H := H.2 Y1 hY
      clear hY
      exact H _ _ R e0 e1 e2
theorem l_66_18 {V : xV} {g : xG} {Y : xW} {l1 : Int32} {l2 : Int32} {Q : xW → Prop} (H : Q Y) : L_66_18 V g Y l1 l2 Q := by
  intro h lv R e0 e1 e2
  exact y_ret (xst_of (i := .return_) (len := 1) rfl rfl rfl) ⟨_, rfl, R, H⟩
theorem l_67_0 {V : xV} {g : xG} {Y : xW} {l1 : Int32} {Q : Int32 → xW → Prop} (H : ((l1 = 0) → L_67_25 V g Y l1 0 Q) ∧ (¬ (l1 = 0) → vp_in (l1 - 1) 40 ∧ vp_in (l1 - 1) 40 ∧ L_67_25 V g Y l1 ((fA Y (7, 0, 0) 1 (Int32.toNatClampNeg (l1 - 1))) + (fA Y (7, 0, 0) 2 (Int32.toNatClampNeg (l1 - 1)))) Q)) : L_67_0 V g Y l1 Q := by
  intro h lv R e0 e1
  refine y_next (pc' := 1) (xst_of (i := (.iload_n 1)) (len := 1) rfl rfl (x_ilo e1)) ?_
  by_cases hc : l1 = 0
  · replace H := H.1 hc
    refine y_next (pc' := 4) (xst_of (i := (.ifCond .ne 7)) (len := 3) rfl rfl (xf_if_ne (t := 8) rfl (fun z => z hc))) ?_
    refine y_next (pc' := 5) (xst_of (i := (.iconst 0)) (len := 1) rfl rfl (x_ico (v := 0) (by decide))) ?_
    refine y_next (pc' := 25) (xst_of (i := (.goto 20)) (len := 3) rfl rfl rfl) ?_
    exact H _ _ R e0 e1
  · replace H := H.2 hc
    refine y_next (xst_of (i := (.ifCond .ne 7)) (len := 3) rfl rfl (xt_if_ne (t := 8) rfl hc)) ?_
    refine y_next (pc' := 9) (xst_of (i := (.aload_n 0)) (len := 1) rfl rfl (x_aloadV (xisV_r _) e0)) ?_
    refine z_gA (t := (7, 0, 0)) (k := 1) rfl rfl rfl R (rc_7 R) ?_
    refine y_next (pc' := 13) (xst_of (i := (.iload_n 1)) (len := 1) rfl rfl (x_ilo e1)) ?_
    refine y_next (pc' := 14) (xst_of (i := (.iconst 1)) (len := 1) rfl rfl (x_ico (v := 1) (by decide))) ?_
    refine y_next (pc' := 15) (xst_of (i := .isub) (len := 1) rfl rfl rfl) ?_
    refine z_aI (t := (7, 0, 0)) (k := 1) (n := 40) (i := (l1 - 1)) rfl rfl R (rc_7 R) H.1 ?_
    replace H := H.2
    refine y_next (pc' := 17) (xst_of (i := (.aload_n 0)) (len := 1) rfl rfl (x_aloadV (xisV_r _) e0)) ?_
    refine z_gA (t := (7, 0, 0)) (k := 2) rfl rfl rfl R (rc_7 R) ?_
    refine y_next (pc' := 21) (xst_of (i := (.iload_n 1)) (len := 1) rfl rfl (x_ilo e1)) ?_
    refine y_next (pc' := 22) (xst_of (i := (.iconst 1)) (len := 1) rfl rfl (x_ico (v := 1) (by decide))) ?_
    refine y_next (pc' := 23) (xst_of (i := .isub) (len := 1) rfl rfl rfl) ?_
    refine z_aI (t := (7, 0, 0)) (k := 2) (n := 40) (i := (l1 - 1)) rfl rfl R (rc_7 R) H.1 ?_
    replace H := H.2
    refine y_next (pc' := 25) (xst_of (i := .iadd) (len := 1) rfl rfl rfl) ?_
    exact H _ _ R e0 e1
theorem l_67_25 {V : xV} {g : xG} {Y : xW} {l1 : Int32} {s0 : Int32} {Q : Int32 → xW → Prop} (H : Q s0 Y) : L_67_25 V g Y l1 s0 Q := by
  intro h lv R e0 e1
  exact y_ret (xst_of (i := .ireturn) (len := 1) rfl rfl rfl) ⟨_, _, rfl, R, H⟩
theorem l_68_0 {V : xV} {g : xG} {Y : xW} {l1 : Int32} {Q : Int32 → xW → Prop} (H : (((fI Y (7, 0, 0) 3) ≤ l1) → L_68_20 V g Y l1 4096 Q) ∧ (¬ ((fI Y (7, 0, 0) 3) ≤ l1) → vp_in l1 40 ∧ L_68_20 V g Y l1 (fA Y (7, 0, 0) 1 (Int32.toNatClampNeg l1)) Q)) : L_68_0 V g Y l1 Q := by
  intro h lv R e0 e1
  refine y_next (pc' := 1) (xst_of (i := (.iload_n 1)) (len := 1) rfl rfl (x_ilo e1)) ?_
  refine y_next (pc' := 2) (xst_of (i := (.aload_n 0)) (len := 1) rfl rfl (x_aloadV (xisV_r _) e0)) ?_
  refine z_gI (t := (7, 0, 0)) (k := 3) rfl rfl rfl R (rc_7 R) ?_
  by_cases hc : (fI Y (7, 0, 0) 3) ≤ l1
  · replace H := H.1 hc
    refine y_next (xst_of (i := (.if_icmp .ge 12)) (len := 3) rfl rfl (xt_icmp_ge (t := 17) rfl hc)) ?_
    refine y_next (pc' := 20) (xst_of (i := (.sipush 4096)) (len := 3) rfl rfl (x_sip (v := 4096) (by decide))) ?_
    exact H _ _ R e0 e1
  · replace H := H.2 hc
    refine y_next (pc' := 8) (xst_of (i := (.if_icmp .ge 12)) (len := 3) rfl rfl (xf_icmp_ge (t := 17) rfl hc)) ?_
    refine y_next (pc' := 9) (xst_of (i := (.aload_n 0)) (len := 1) rfl rfl (x_aloadV (xisV_r _) e0)) ?_
    refine z_gA (t := (7, 0, 0)) (k := 1) rfl rfl rfl R (rc_7 R) ?_
    refine y_next (pc' := 13) (xst_of (i := (.iload_n 1)) (len := 1) rfl rfl (x_ilo e1)) ?_
    refine z_aI (t := (7, 0, 0)) (k := 1) (n := 40) (i := l1) rfl rfl R (rc_7 R) H.1 ?_
    replace H := H.2
    refine y_next (pc' := 20) (xst_of (i := (.goto 6)) (len := 3) rfl rfl rfl) ?_
    exact H _ _ R e0 e1
theorem l_68_20 {V : xV} {g : xG} {Y : xW} {l1 : Int32} {s0 : Int32} {Q : Int32 → xW → Prop} (H : L_67_0 V g Y l1 (fun x2 Y1 => Q (s0 - x2) Y1)) : L_68_20 V g Y l1 s0 Q := by
  intro h lv R e0 e1
  refine y_next (pc' := 21) (xst_of (i := (.aload_n 0)) (len := 1) rfl rfl (x_aloadV (xisV_r _) e0)) ?_
  refine y_next (pc' := 22) (xst_of (i := (.iload_n 1)) (len := 1) rfl rfl (x_ilo e1)) ?_
  refine z_cI (k := 67) (i := (.invokevirtual 25)) (as := [.ref (g.2 (7, 0, 0) 0), .int l1]) (rest := [.int s0]) rfl rfl (x_callv rfl rfl (rc_ob R (rc_7 R) rfl) rfl rfl) (H _ _ R rfl rfl) (fun x2 h Y1 R H => ?_)
  refine y_next (pc' := 26) (xst_of (i := .isub) (len := 1) rfl rfl rfl) ?_
  exact y_ret (xst_of (i := .ireturn) (len := 1) rfl rfl rfl) ⟨_, _, rfl, R, H⟩
theorem l_69_0 {V : xV} {g : xG} {Y : xW} {l1 : Int32} {Q : Int32 → xW → Prop} (H : L_69_2 V g Y l1 0 Q) : L_69_0 V g Y l1 Q := by
  intro h lv R e0 e1
  refine y_next (pc' := 1) (xst_of (i := (.iconst 0)) (len := 1) rfl rfl (x_ico (v := 0) (by decide))) ?_
  refine z_is (i := (.istore_n 2)) (len := 1) (pc' := 2) (q := 2) rfl rfl rfl (by decide) (fun lv1 hlv => ?_)
  have e0 := xs1_A hlv e0 rfl rfl
  have e1 := xs1_B hlv e1 rfl rfl
  have e2 := xs1_N hlv
  clear hlv
  exact H _ _ R e0 e1 e2
theorem l_69_2 {V : xV} {g : xG} {Y : xW} {l1 : Int32} {l2 : Int32} {Q : Int32 → xW → Prop} (H : (((fI Y (7, 0, 0) 3) < l2) → Q (-1) Y) ∧ (¬ ((fI Y (7, 0, 0) 3) < l2) → L_68_0 V g Y l2 (fun x2 Y1 => ((x2 < l1) → L_69_2 V g Y1 l1 (l2 + 1) Q) ∧ (¬ (x2 < l1) → L_67_0 V g Y1 l2 (fun x4 Y3 => Q x4 Y3))))) : L_69_2 V g Y l1 l2 Q := by
  intro h lv R e0 e1 e2
  refine y_next (pc' := 3) (xst_of (i := (.iload_n 2)) (len := 1) rfl rfl (x_ilo e2)) ?_
  refine y_next (pc' := 4) (xst_of (i := (.aload_n 0)) (len := 1) rfl rfl (x_aloadV (xisV_r _) e0)) ?_
  refine z_gI (t := (7, 0, 0)) (k := 3) rfl rfl rfl R (rc_7 R) ?_
  by_cases hc : (fI Y (7, 0, 0) 3) < l2
  · replace H := H.1 hc
    refine y_next (xst_of (i := (.if_icmp .gt 24)) (len := 3) rfl rfl (xt_icmp_gt (t := 31) rfl hc)) ?_
    refine y_next (pc' := 32) (xst_of (i := (.iconst (-1))) (len := 1) rfl rfl (x_ico (v := (-1)) (by decide))) ?_
    exact y_ret (xst_of (i := .ireturn) (len := 1) rfl rfl rfl) ⟨_, _, rfl, R, H⟩
  · replace H := H.2 hc
    refine y_next (pc' := 10) (xst_of (i := (.if_icmp .gt 24)) (len := 3) rfl rfl (xf_icmp_gt (t := 31) rfl hc)) ?_
    refine y_next (pc' := 11) (xst_of (i := (.aload_n 0)) (len := 1) rfl rfl (x_aloadV (xisV_r _) e0)) ?_
    refine y_next (pc' := 12) (xst_of (i := (.iload_n 2)) (len := 1) rfl rfl (x_ilo e2)) ?_
    refine z_cI (k := 68) (i := (.invokevirtual 29)) (as := [.ref (g.2 (7, 0, 0) 0), .int l2]) (rest := []) rfl rfl (x_callv rfl rfl (rc_ob R (rc_7 R) rfl) rfl rfl) (H _ _ R rfl rfl) (fun x2 h Y1 R H => ?_)
    refine y_next (pc' := 16) (xst_of (i := (.iload_n 1)) (len := 1) rfl rfl (x_ilo e1)) ?_
    by_cases hc : x2 < l1
    · replace H := H.1 hc
      refine y_next (xst_of (i := (.if_icmp .lt 9)) (len := 3) rfl rfl (xt_icmp_lt (t := 25) rfl hc)) ?_
      refine z_in (q := 2) (n := 1) (v := 1) rfl e2 (by decide) (by decide) (fun lv1 hlv => ?_)
      have e0 := xs1_A hlv e0 rfl rfl
      have e1 := xs1_B hlv e1 rfl rfl
      have e2 := xs1_N hlv
      clear hlv
      refine y_next (pc' := 2) (xst_of (i := (.goto (-26))) (len := 3) rfl rfl rfl) ?_
      exact H _ _ R e0 e1 e2
    · replace H := H.2 hc
      refine y_next (pc' := 19) (xst_of (i := (.if_icmp .lt 9)) (len := 3) rfl rfl (xf_icmp_lt (t := 25) rfl hc)) ?_
      refine y_next (pc' := 20) (xst_of (i := (.aload_n 0)) (len := 1) rfl rfl (x_aloadV (xisV_r _) e0)) ?_
      refine y_next (pc' := 21) (xst_of (i := (.iload_n 2)) (len := 1) rfl rfl (x_ilo e2)) ?_
      refine z_cI (k := 67) (i := (.invokevirtual 25)) (as := [.ref (g.2 (7, 0, 0) 0), .int l2]) (rest := []) rfl rfl (x_callv rfl rfl (rc_ob R (rc_7 R) rfl) rfl rfl) (H _ _ R rfl rfl) (fun x4 h Y3 R H => ?_)
      exact y_ret (xst_of (i := .ireturn) (len := 1) rfl rfl rfl) ⟨_, _, rfl, R, H⟩
theorem l_70_0 {V : xV} {g : xG} {Y : xW}  {Q : Int32 → xW → Prop} (H : L_70_4 V g Y 0 0 Q) : L_70_0 V g Y  Q := by
  intro h lv R e0
  refine y_next (pc' := 1) (xst_of (i := (.iconst 0)) (len := 1) rfl rfl (x_ico (v := 0) (by decide))) ?_
  refine z_is (i := (.istore_n 1)) (len := 1) (pc' := 2) (q := 1) rfl rfl rfl (by decide) (fun lv1 hlv => ?_)
  have e0 := xs1_B hlv e0 rfl rfl
  have e1 := xs1_N hlv
  clear hlv
  refine y_next (pc' := 3) (xst_of (i := (.iconst 0)) (len := 1) rfl rfl (x_ico (v := 0) (by decide))) ?_
  refine z_is (i := (.istore_n 2)) (len := 1) (pc' := 4) (q := 2) rfl rfl rfl (by decide) (fun lv2 hlv => ?_)
  have e0 := xs1_A hlv e0 rfl rfl
  have e1 := xs1_B hlv e1 rfl rfl
  have e2 := xs1_N hlv
  clear hlv
  exact H _ _ R e0 e1 e2
theorem l_70_4 {V : xV} {g : xG} {Y : xW} {l1 : Int32} {l2 : Int32} {Q : Int32 → xW → Prop} (H : (((fI Y (7, 0, 0) 3) < l2) → Q l1 Y) ∧ (¬ ((fI Y (7, 0, 0) 3) < l2) → L_68_0 V g Y l2 (fun x2 Y1 => L_70_4 V g Y1 (l1 + x2) (l2 + 1) Q))) : L_70_4 V g Y l1 l2 Q := by
  intro h lv R e0 e1 e2
  refine y_next (pc' := 5) (xst_of (i := (.iload_n 2)) (len := 1) rfl rfl (x_ilo e2)) ?_
  refine y_next (pc' := 6) (xst_of (i := (.aload_n 0)) (len := 1) rfl rfl (x_aloadV (xisV_r _) e0)) ?_
  refine z_gI (t := (7, 0, 0)) (k := 3) rfl rfl rfl R (rc_7 R) ?_
  by_cases hc : (fI Y (7, 0, 0) 3) < l2
  · replace H := H.1 hc
    refine y_next (xst_of (i := (.if_icmp .gt 17)) (len := 3) rfl rfl (xt_icmp_gt (t := 26) rfl hc)) ?_
    refine y_next (pc' := 27) (xst_of (i := (.iload_n 1)) (len := 1) rfl rfl (x_ilo e1)) ?_
    exact y_ret (xst_of (i := .ireturn) (len := 1) rfl rfl rfl) ⟨_, _, rfl, R, H⟩
  · replace H := H.2 hc
    refine y_next (pc' := 12) (xst_of (i := (.if_icmp .gt 17)) (len := 3) rfl rfl (xf_icmp_gt (t := 26) rfl hc)) ?_
    refine y_next (pc' := 13) (xst_of (i := (.iload_n 1)) (len := 1) rfl rfl (x_ilo e1)) ?_
    refine y_next (pc' := 14) (xst_of (i := (.aload_n 0)) (len := 1) rfl rfl (x_aloadV (xisV_r _) e0)) ?_
    refine y_next (pc' := 15) (xst_of (i := (.iload_n 2)) (len := 1) rfl rfl (x_ilo e2)) ?_
    refine z_cI (k := 68) (i := (.invokevirtual 29)) (as := [.ref (g.2 (7, 0, 0) 0), .int l2]) (rest := [.int l1]) rfl rfl (x_callv rfl rfl (rc_ob R (rc_7 R) rfl) rfl rfl) (H _ _ R rfl rfl) (fun x2 h Y1 R H => ?_)
    refine y_next (pc' := 19) (xst_of (i := .iadd) (len := 1) rfl rfl rfl) ?_
    refine z_is (i := (.istore_n 1)) (len := 1) (pc' := 20) (q := 1) rfl rfl rfl (by decide) (fun lv1 hlv => ?_)
    have e0 := xs1_B hlv e0 rfl rfl
    have e2 := xs1_A hlv e2 rfl rfl
    have e1 := xs1_N hlv
    clear hlv
    refine z_in (q := 2) (n := 1) (v := 1) rfl e2 (by decide) (by decide) (fun lv2 hlv => ?_)
    have e0 := xs1_A hlv e0 rfl rfl
    have e1 := xs1_B hlv e1 rfl rfl
    have e2 := xs1_N hlv
    clear hlv
    refine y_next (pc' := 4) (xst_of (i := (.goto (-19))) (len := 3) rfl rfl rfl) ?_
    exact H _ _ R e0 e1 e2
theorem l_71_0 {V : xV} {g : xG} {Y : xW}  {Q : Int32 → xW → Prop} (H : L_71_4 V g Y 0 0 Q) : L_71_0 V g Y  Q := by
  intro h lv R e0
  refine y_next (pc' := 1) (xst_of (i := (.iconst 0)) (len := 1) rfl rfl (x_ico (v := 0) (by decide))) ?_
  refine z_is (i := (.istore_n 1)) (len := 1) (pc' := 2) (q := 1) rfl rfl rfl (by decide) (fun lv1 hlv => ?_)
  have e0 := xs1_B hlv e0 rfl rfl
  have e1 := xs1_N hlv
  clear hlv
  refine y_next (pc' := 3) (xst_of (i := (.iconst 0)) (len := 1) rfl rfl (x_ico (v := 0) (by decide))) ?_
  refine z_is (i := (.istore_n 2)) (len := 1) (pc' := 4) (q := 2) rfl rfl rfl (by decide) (fun lv2 hlv => ?_)
  have e0 := xs1_A hlv e0 rfl rfl
  have e1 := xs1_B hlv e1 rfl rfl
  have e2 := xs1_N hlv
  clear hlv
  exact H _ _ R e0 e1 e2
theorem l_71_4 {V : xV} {g : xG} {Y : xW} {l1 : Int32} {l2 : Int32} {Q : Int32 → xW → Prop} (H : (((fI Y (7, 0, 0) 3) < l2) → Q l1 Y) ∧ (¬ ((fI Y (7, 0, 0) 3) < l2) → L_68_0 V g Y l2 (fun x2 Y1 => ((x2 ≤ 0) → L_71_26 V g Y1 l1 l2 l1 0 Q) ∧ (¬ (x2 ≤ 0) → L_71_26 V g Y1 l1 l2 l1 1 Q)))) : L_71_4 V g Y l1 l2 Q := by
  intro h lv R e0 e1 e2
  refine y_next (pc' := 5) (xst_of (i := (.iload_n 2)) (len := 1) rfl rfl (x_ilo e2)) ?_
  refine y_next (pc' := 6) (xst_of (i := (.aload_n 0)) (len := 1) rfl rfl (x_aloadV (xisV_r _) e0)) ?_
  refine z_gI (t := (7, 0, 0)) (k := 3) rfl rfl rfl R (rc_7 R) ?_
  by_cases hc : (fI Y (7, 0, 0) 3) < l2
  · replace H := H.1 hc
    refine y_next (xst_of (i := (.if_icmp .gt 25)) (len := 3) rfl rfl (xt_icmp_gt (t := 34) rfl hc)) ?_
    refine y_next (pc' := 35) (xst_of (i := (.iload_n 1)) (len := 1) rfl rfl (x_ilo e1)) ?_
    exact y_ret (xst_of (i := .ireturn) (len := 1) rfl rfl rfl) ⟨_, _, rfl, R, H⟩
  · replace H := H.2 hc
    refine y_next (pc' := 12) (xst_of (i := (.if_icmp .gt 25)) (len := 3) rfl rfl (xf_icmp_gt (t := 34) rfl hc)) ?_
    refine y_next (pc' := 13) (xst_of (i := (.iload_n 1)) (len := 1) rfl rfl (x_ilo e1)) ?_
    refine y_next (pc' := 14) (xst_of (i := (.aload_n 0)) (len := 1) rfl rfl (x_aloadV (xisV_r _) e0)) ?_
    refine y_next (pc' := 15) (xst_of (i := (.iload_n 2)) (len := 1) rfl rfl (x_ilo e2)) ?_
    refine z_cI (k := 68) (i := (.invokevirtual 29)) (as := [.ref (g.2 (7, 0, 0) 0), .int l2]) (rest := [.int l1]) rfl rfl (x_callv rfl rfl (rc_ob R (rc_7 R) rfl) rfl rfl) (H _ _ R rfl rfl) (fun x2 h Y1 R H => ?_)
    by_cases hc : x2 ≤ 0
    · replace H := H.1 hc
      refine y_next (xst_of (i := (.ifCond .le 7)) (len := 3) rfl rfl (xt_if_le (t := 25) rfl hc)) ?_
      refine y_next (pc' := 26) (xst_of (i := (.iconst 0)) (len := 1) rfl rfl (x_ico (v := 0) (by decide))) ?_
      exact H _ _ R e0 e1 e2
    · replace H := H.2 hc
      refine y_next (pc' := 21) (xst_of (i := (.ifCond .le 7)) (len := 3) rfl rfl (xf_if_le (t := 25) rfl hc)) ?_
      refine y_next (pc' := 22) (xst_of (i := (.iconst 1)) (len := 1) rfl rfl (x_ico (v := 1) (by decide))) ?_
      refine y_next (pc' := 26) (xst_of (i := (.goto 4)) (len := 3) rfl rfl rfl) ?_
      exact H _ _ R e0 e1 e2
theorem l_71_26 {V : xV} {g : xG} {Y : xW} {l1 : Int32} {l2 : Int32} {s0 : Int32} {s1 : Int32} {Q : Int32 → xW → Prop} (H : L_71_4 V g Y (s0 + s1) (l2 + 1) Q) : L_71_26 V g Y l1 l2 s0 s1 Q := by
  intro h lv R e0 e1 e2
  refine y_next (pc' := 27) (xst_of (i := .iadd) (len := 1) rfl rfl rfl) ?_
  refine z_is (i := (.istore_n 1)) (len := 1) (pc' := 28) (q := 1) rfl rfl rfl (by decide) (fun lv1 hlv => ?_)
  have e0 := xs1_B hlv e0 rfl rfl
  have e2 := xs1_A hlv e2 rfl rfl
  have e1 := xs1_N hlv
  clear hlv
  refine z_in (q := 2) (n := 1) (v := 1) rfl e2 (by decide) (by decide) (fun lv2 hlv => ?_)
  have e0 := xs1_A hlv e0 rfl rfl
  have e1 := xs1_B hlv e1 rfl rfl
  have e2 := xs1_N hlv
  clear hlv
  refine y_next (pc' := 4) (xst_of (i := (.goto (-27))) (len := 3) rfl rfl rfl) ?_
  exact H _ _ R e0 e1 e2
theorem l_72_0 {V : xV} {g : xG} {Y : xW}  {Q : Int32 → xW → Prop} (H : L_72_4 V g Y 0 0 Q) : L_72_0 V g Y  Q := by
  intro h lv R e0
  refine y_next (pc' := 1) (xst_of (i := (.iconst 0)) (len := 1) rfl rfl (x_ico (v := 0) (by decide))) ?_
  refine z_is (i := (.istore_n 1)) (len := 1) (pc' := 2) (q := 1) rfl rfl rfl (by decide) (fun lv1 hlv => ?_)
  have e0 := xs1_B hlv e0 rfl rfl
  have e1 := xs1_N hlv
  clear hlv
  refine y_next (pc' := 3) (xst_of (i := (.iconst 0)) (len := 1) rfl rfl (x_ico (v := 0) (by decide))) ?_
  refine z_is (i := (.istore_n 2)) (len := 1) (pc' := 4) (q := 2) rfl rfl rfl (by decide) (fun lv2 hlv => ?_)
  have e0 := xs1_A hlv e0 rfl rfl
  have e1 := xs1_B hlv e1 rfl rfl
  have e2 := xs1_N hlv
  clear hlv
  exact H _ _ R e0 e1 e2
theorem l_72_4 {V : xV} {g : xG} {Y : xW} {l1 : Int32} {l2 : Int32} {Q : Int32 → xW → Prop} (H : (((fI Y (7, 0, 0) 3) < l2) → Q l1 Y) ∧ (¬ ((fI Y (7, 0, 0) 3) < l2) → L_68_0 V g Y l2 (fun x2 Y1 => L_185_0 V g Y1 l1 x2 (fun x4 Y3 => L_72_4 V g Y3 x4 (l2 + 1) Q)))) : L_72_4 V g Y l1 l2 Q := by
  intro h lv R e0 e1 e2
  refine y_next (pc' := 5) (xst_of (i := (.iload_n 2)) (len := 1) rfl rfl (x_ilo e2)) ?_
  refine y_next (pc' := 6) (xst_of (i := (.aload_n 0)) (len := 1) rfl rfl (x_aloadV (xisV_r _) e0)) ?_
  refine z_gI (t := (7, 0, 0)) (k := 3) rfl rfl rfl R (rc_7 R) ?_
  by_cases hc : (fI Y (7, 0, 0) 3) < l2
  · replace H := H.1 hc
    refine y_next (xst_of (i := (.if_icmp .gt 19)) (len := 3) rfl rfl (xt_icmp_gt (t := 28) rfl hc)) ?_
    refine y_next (pc' := 29) (xst_of (i := (.iload_n 1)) (len := 1) rfl rfl (x_ilo e1)) ?_
    exact y_ret (xst_of (i := .ireturn) (len := 1) rfl rfl rfl) ⟨_, _, rfl, R, H⟩
  · replace H := H.2 hc
    refine y_next (pc' := 12) (xst_of (i := (.if_icmp .gt 19)) (len := 3) rfl rfl (xf_icmp_gt (t := 28) rfl hc)) ?_
    refine y_next (pc' := 13) (xst_of (i := (.iload_n 1)) (len := 1) rfl rfl (x_ilo e1)) ?_
    refine y_next (pc' := 14) (xst_of (i := (.aload_n 0)) (len := 1) rfl rfl (x_aloadV (xisV_r _) e0)) ?_
    refine y_next (pc' := 15) (xst_of (i := (.iload_n 2)) (len := 1) rfl rfl (x_ilo e2)) ?_
    refine z_cI (k := 68) (i := (.invokevirtual 29)) (as := [.ref (g.2 (7, 0, 0) 0), .int l2]) (rest := [.int l1]) rfl rfl (x_callv rfl rfl (rc_ob R (rc_7 R) rfl) rfl rfl) (H _ _ R rfl rfl) (fun x2 h Y1 R H => ?_)
    refine z_cI (k := 185) (i := (.invokestatic 32)) (as := [.int l1, .int x2]) (rest := []) rfl rfl rfl (H _ _ R rfl rfl) (fun x4 h Y3 R H => ?_)
    refine z_is (i := (.istore_n 1)) (len := 1) (pc' := 22) (q := 1) rfl rfl rfl (by decide) (fun lv1 hlv => ?_)
    have e0 := xs1_B hlv e0 rfl rfl
    have e2 := xs1_A hlv e2 rfl rfl
    have e1 := xs1_N hlv
    clear hlv
    refine z_in (q := 2) (n := 1) (v := 1) rfl e2 (by decide) (by decide) (fun lv2 hlv => ?_)
    have e0 := xs1_A hlv e0 rfl rfl
    have e1 := xs1_B hlv e1 rfl rfl
    have e2 := xs1_N hlv
    clear hlv
    refine y_next (pc' := 4) (xst_of (i := (.goto (-21))) (len := 3) rfl rfl rfl) ?_
    exact H _ _ R e0 e1 e2
theorem l_73_0 {V : xV} {g : xG} {Y : xW} {l1 : Int32} {l2 : Int32} {Q : xW → Prop} (H : (((fI Y (7, 0, 0) 3) < 40) → L_73_21 V g Y l1 l2 (fI Y (7, 0, 0) 3) (fI Y (7, 0, 0) 3) Q) ∧ (¬ ((fI Y (7, 0, 0) 3) < 40) → Q Y)) : L_73_0 V g Y l1 l2 Q := by
  intro h lv R e0 e1 e2
  refine y_next (pc' := 1) (xst_of (i := (.aload_n 0)) (len := 1) rfl rfl (x_aloadV (xisV_r _) e0)) ?_
  refine z_gI (t := (7, 0, 0)) (k := 3) rfl rfl rfl R (rc_7 R) ?_
  refine y_next (pc' := 6) (xst_of (i := (.bipush 40)) (len := 2) rfl rfl (x_bip (v := 40) (by decide))) ?_
  by_cases hc : (fI Y (7, 0, 0) 3) < 40
  · replace H := H.1 hc
    refine y_next (xst_of (i := (.if_icmp .lt 4)) (len := 3) rfl rfl (xt_icmp_lt (t := 10) rfl hc)) ?_
    refine y_next (pc' := 11) (xst_of (i := (.aload_n 0)) (len := 1) rfl rfl (x_aloadV (xisV_r _) e0)) ?_
    refine z_gI (t := (7, 0, 0)) (k := 3) rfl rfl rfl R (rc_7 R) ?_
    refine z_is (i := (.istore_n 3)) (len := 1) (pc' := 15) (q := 3) rfl rfl rfl (by decide) (fun lv1 hlv => ?_)
    have e0 := xs1_A hlv e0 rfl rfl
    have e1 := xs1_A hlv e1 rfl rfl
    have e2 := xs1_B hlv e2 rfl rfl
    have e3 := xs1_N hlv
    clear hlv
    refine y_next (pc' := 16) (xst_of (i := (.aload_n 0)) (len := 1) rfl rfl (x_aloadV (xisV_r _) e0)) ?_
    refine z_gI (t := (7, 0, 0)) (k := 3) rfl rfl rfl R (rc_7 R) ?_
    refine z_is (i := (.istore 4)) (len := 2) (pc' := 21) (q := 4) rfl rfl rfl (by decide) (fun lv2 hlv => ?_)
    have e0 := xs1_A hlv e0 rfl rfl
    have e1 := xs1_A hlv e1 rfl rfl
    have e2 := xs1_A hlv e2 rfl rfl
    have e3 := xs1_B hlv e3 rfl rfl
    have e4 := xs1_N hlv
    clear hlv
    exact H _ _ R e0 e1 e2 e3 e4
  · replace H := H.2 hc
    refine y_next (pc' := 9) (xst_of (i := (.if_icmp .lt 4)) (len := 3) rfl rfl (xf_icmp_lt (t := 10) rfl hc)) ?_
    exact y_ret (xst_of (i := .return_) (len := 1) rfl rfl rfl) ⟨_, rfl, R, H⟩
theorem l_73_21 {V : xV} {g : xG} {Y : xW} {l1 : Int32} {l2 : Int32} {l3 : Int32} {l4 : Int32} {Q : xW → Prop} (H : ((l4 ≤ 0) → L_73_82 V g Y l1 l2 l3 l4 Q) ∧ (¬ (l4 ≤ 0) → vp_in (l4 - 1) 40 ∧ (((fA Y (7, 0, 0) 1 (Int32.toNatClampNeg (l4 - 1))) ≤ l1) → L_73_82 V g Y l1 l2 l3 l4 Q) ∧ (¬ ((fA Y (7, 0, 0) 1 (Int32.toNatClampNeg (l4 - 1))) ≤ l1) → vp_in (l4 - 1) 40 ∧ vp_in l4 40 ∧ ∀ Y1, Y1 = uA Y (7, 0, 0) 1 (Int32.toNatClampNeg l4) (fA Y (7, 0, 0) 1 (Int32.toNatClampNeg (l4 - 1))) → vp_in (l4 - 1) 40 ∧ vp_in l4 40 ∧ ∀ Y2, Y2 = uA Y1 (7, 0, 0) 2 (Int32.toNatClampNeg l4) (fA Y1 (7, 0, 0) 2 (Int32.toNatClampNeg (l4 - 1))) → L_73_21 V g Y2 l1 l2 (l4 - 1) (l4 + (-1)) Q))) : L_73_21 V g Y l1 l2 l3 l4 Q := by
  intro h lv R e0 e1 e2 e3 e4
  refine y_next (pc' := 23) (xst_of (i := (.iload 4)) (len := 2) rfl rfl (x_ilo e4)) ?_
  by_cases hc : l4 ≤ 0
  · replace H := H.1 hc
    refine y_next (xst_of (i := (.ifCond .le 59)) (len := 3) rfl rfl (xt_if_le (t := 82) rfl hc)) ?_
    exact H _ _ R e0 e1 e2 e3 e4
  · replace H := H.2 hc
    refine y_next (pc' := 26) (xst_of (i := (.ifCond .le 59)) (len := 3) rfl rfl (xf_if_le (t := 82) rfl hc)) ?_
    refine y_next (pc' := 27) (xst_of (i := (.aload_n 0)) (len := 1) rfl rfl (x_aloadV (xisV_r _) e0)) ?_
    refine z_gA (t := (7, 0, 0)) (k := 1) rfl rfl rfl R (rc_7 R) ?_
    refine y_next (pc' := 32) (xst_of (i := (.iload 4)) (len := 2) rfl rfl (x_ilo e4)) ?_
    refine y_next (pc' := 33) (xst_of (i := (.iconst 1)) (len := 1) rfl rfl (x_ico (v := 1) (by decide))) ?_
    refine y_next (pc' := 34) (xst_of (i := .isub) (len := 1) rfl rfl rfl) ?_
    refine z_aI (t := (7, 0, 0)) (k := 1) (n := 40) (i := (l4 - 1)) rfl rfl R (rc_7 R) H.1 ?_
    replace H := H.2
    refine y_next (pc' := 36) (xst_of (i := (.iload_n 1)) (len := 1) rfl rfl (x_ilo e1)) ?_
    by_cases hc : (fA Y (7, 0, 0) 1 (Int32.toNatClampNeg (l4 - 1))) ≤ l1
    · replace H := H.1 hc
      refine y_next (xst_of (i := (.if_icmp .le 46)) (len := 3) rfl rfl (xt_icmp_le (t := 82) rfl hc)) ?_
      exact H _ _ R e0 e1 e2 e3 e4
    · replace H := H.2 hc
      refine y_next (pc' := 39) (xst_of (i := (.if_icmp .le 46)) (len := 3) rfl rfl (xf_icmp_le (t := 82) rfl hc)) ?_
      refine y_next (pc' := 40) (xst_of (i := (.aload_n 0)) (len := 1) rfl rfl (x_aloadV (xisV_r _) e0)) ?_
      refine z_gA (t := (7, 0, 0)) (k := 1) rfl rfl rfl R (rc_7 R) ?_
      refine y_next (pc' := 45) (xst_of (i := (.iload 4)) (len := 2) rfl rfl (x_ilo e4)) ?_
      refine y_next (pc' := 46) (xst_of (i := (.aload_n 0)) (len := 1) rfl rfl (x_aloadV (xisV_r _) e0)) ?_
      refine z_gA (t := (7, 0, 0)) (k := 1) rfl rfl rfl R (rc_7 R) ?_
      refine y_next (pc' := 51) (xst_of (i := (.iload 4)) (len := 2) rfl rfl (x_ilo e4)) ?_
      refine y_next (pc' := 52) (xst_of (i := (.iconst 1)) (len := 1) rfl rfl (x_ico (v := 1) (by decide))) ?_
      refine y_next (pc' := 53) (xst_of (i := .isub) (len := 1) rfl rfl rfl) ?_
      refine z_aI (t := (7, 0, 0)) (k := 1) (n := 40) (i := (l4 - 1)) rfl rfl R (rc_7 R) H.1 ?_
      replace H := H.2
      refine z_sI (t := (7, 0, 0)) (k := 1) (n := 40) (i := l4) rfl rfl R (rc_7 R) H.1 (fun h Y1 hY R => ?_)
      replace H := H.2 Y1 hY
      clear hY
      refine y_next (pc' := 56) (xst_of (i := (.aload_n 0)) (len := 1) rfl rfl (x_aloadV (xisV_r _) e0)) ?_
      refine z_gA (t := (7, 0, 0)) (k := 2) rfl rfl rfl R (rc_7 R) ?_
      refine y_next (pc' := 61) (xst_of (i := (.iload 4)) (len := 2) rfl rfl (x_ilo e4)) ?_
      refine y_next (pc' := 62) (xst_of (i := (.aload_n 0)) (len := 1) rfl rfl (x_aloadV (xisV_r _) e0)) ?_
      refine z_gA (t := (7, 0, 0)) (k := 2) rfl rfl rfl R (rc_7 R) ?_
      refine y_next (pc' := 67) (xst_of (i := (.iload 4)) (len := 2) rfl rfl (x_ilo e4)) ?_
      refine y_next (pc' := 68) (xst_of (i := (.iconst 1)) (len := 1) rfl rfl (x_ico (v := 1) (by decide))) ?_
      refine y_next (pc' := 69) (xst_of (i := .isub) (len := 1) rfl rfl rfl) ?_
      refine z_aI (t := (7, 0, 0)) (k := 2) (n := 40) (i := (l4 - 1)) rfl rfl R (rc_7 R) H.1 ?_
      replace H := H.2
      refine z_sI (t := (7, 0, 0)) (k := 2) (n := 40) (i := l4) rfl rfl R (rc_7 R) H.1 (fun h Y2 hY R => ?_)
      replace H := H.2 Y2 hY
      clear hY
      refine y_next (pc' := 73) (xst_of (i := (.iload 4)) (len := 2) rfl rfl (x_ilo e4)) ?_
      refine y_next (pc' := 74) (xst_of (i := (.iconst 1)) (len := 1) rfl rfl (x_ico (v := 1) (by decide))) ?_
      refine y_next (pc' := 75) (xst_of (i := .isub) (len := 1) rfl rfl rfl) ?_
      refine z_is (i := (.istore_n 3)) (len := 1) (pc' := 76) (q := 3) rfl rfl rfl (by decide) (fun lv1 hlv => ?_)
      have e0 := xs1_A hlv e0 rfl rfl
      have e1 := xs1_A hlv e1 rfl rfl
      have e2 := xs1_B hlv e2 rfl rfl
      have e4 := xs1_A hlv e4 rfl rfl
      have e3 := xs1_N hlv
      clear hlv
      refine z_in (q := 4) (n := (-1)) (v := (-1)) rfl e4 (by decide) (by decide) (fun lv2 hlv => ?_)
      have e0 := xs1_A hlv e0 rfl rfl
      have e1 := xs1_A hlv e1 rfl rfl
      have e2 := xs1_A hlv e2 rfl rfl
      have e3 := xs1_B hlv e3 rfl rfl
      have e4 := xs1_N hlv
      clear hlv
      refine y_next (pc' := 21) (xst_of (i := (.goto (-58))) (len := 3) rfl rfl rfl) ?_
      exact H _ _ R e0 e1 e2 e3 e4
theorem l_73_82 {V : xV} {g : xG} {Y : xW} {l1 : Int32} {l2 : Int32} {l3 : Int32} {l4 : Int32} {Q : xW → Prop} (H : vp_in l3 40 ∧ ∀ Y1, Y1 = uA Y (7, 0, 0) 1 (Int32.toNatClampNeg l3) l1 → vp_in l3 40 ∧ ∀ Y2, Y2 = uA Y1 (7, 0, 0) 2 (Int32.toNatClampNeg l3) l2 → ∀ Y3, Y3 = uI Y2 (7, 0, 0) 3 ((fI Y2 (7, 0, 0) 3) + 1) → L_73_109 V g Y3 l1 l2 l3 0 Q) : L_73_82 V g Y l1 l2 l3 l4 Q := by
  intro h lv R e0 e1 e2 e3 e4
  refine y_next (pc' := 83) (xst_of (i := (.aload_n 0)) (len := 1) rfl rfl (x_aloadV (xisV_r _) e0)) ?_
  refine z_gA (t := (7, 0, 0)) (k := 1) rfl rfl rfl R (rc_7 R) ?_
  refine y_next (pc' := 87) (xst_of (i := (.iload_n 3)) (len := 1) rfl rfl (x_ilo e3)) ?_
  refine y_next (pc' := 88) (xst_of (i := (.iload_n 1)) (len := 1) rfl rfl (x_ilo e1)) ?_
  refine z_sI (t := (7, 0, 0)) (k := 1) (n := 40) (i := l3) rfl rfl R (rc_7 R) H.1 (fun h Y1 hY R => ?_)
  replace H := H.2 Y1 hY
  clear hY
  refine y_next (pc' := 90) (xst_of (i := (.aload_n 0)) (len := 1) rfl rfl (x_aloadV (xisV_r _) e0)) ?_
  refine z_gA (t := (7, 0, 0)) (k := 2) rfl rfl rfl R (rc_7 R) ?_
  refine y_next (pc' := 94) (xst_of (i := (.iload_n 3)) (len := 1) rfl rfl (x_ilo e3)) ?_
  refine y_next (pc' := 95) (xst_of (i := (.iload_n 2)) (len := 1) rfl rfl (x_ilo e2)) ?_
  refine z_sI (t := (7, 0, 0)) (k := 2) (n := 40) (i := l3) rfl rfl R (rc_7 R) H.1 (fun h Y2 hY R => ?_)
  replace H := H.2 Y2 hY
  clear hY
  refine y_next (pc' := 97) (xst_of (i := (.aload_n 0)) (len := 1) rfl rfl (x_aloadV (xisV_r _) e0)) ?_
  refine y_next (pc' := 98) (xst_of (i := .dup) (len := 1) rfl rfl (x_dup rfl)) ?_
  refine z_gI (t := (7, 0, 0)) (k := 3) rfl rfl rfl R (rc_7 R) ?_
  refine y_next (pc' := 102) (xst_of (i := (.iconst 1)) (len := 1) rfl rfl (x_ico (v := 1) (by decide))) ?_
  refine y_next (pc' := 103) (xst_of (i := .iadd) (len := 1) rfl rfl rfl) ?_
  refine z_pI (t := (7, 0, 0)) (k := 3) rfl rfl rfl rfl rfl R (rc_7 R) (fun h Y3 hY R => ?_)
  replace H := H Y3 hY
  clear hY
  refine y_next (pc' := 107) (xst_of (i := (.iconst 0)) (len := 1) rfl rfl (x_ico (v := 0) (by decide))) ?_
  refine z_is (i := (.istore 4)) (len := 2) (pc' := 109) (q := 4) rfl rfl rfl (by decide) (fun lv1 hlv => ?_)
  have e0 := xs1_A hlv e0 rfl rfl
  have e1 := xs1_A hlv e1 rfl rfl
  have e2 := xs1_A hlv e2 rfl rfl
  have e3 := xs1_B hlv e3 rfl rfl
  have e4 := xs1_N hlv
  clear hlv
  exact H _ _ R e0 e1 e2 e3 e4
theorem l_73_109 {V : xV} {g : xG} {Y : xW} {l1 : Int32} {l2 : Int32} {l3 : Int32} {l4 : Int32} {Q : xW → Prop} (H : ((l2 ≤ l4) → Q Y) ∧ (¬ (l2 ≤ l4) → L_66_0 V g Y (l1 + l4) 0 (fun Y1 => L_73_109 V g Y1 l1 l2 l3 (l4 + 1) Q))) : L_73_109 V g Y l1 l2 l3 l4 Q := by
  intro h lv R e0 e1 e2 e3 e4
  refine y_next (pc' := 111) (xst_of (i := (.iload 4)) (len := 2) rfl rfl (x_ilo e4)) ?_
  refine y_next (pc' := 112) (xst_of (i := (.iload_n 2)) (len := 1) rfl rfl (x_ilo e2)) ?_
  by_cases hc : l2 ≤ l4
  · replace H := H.1 hc
    refine y_next (xst_of (i := (.if_icmp .ge 18)) (len := 3) rfl rfl (xt_icmp_ge (t := 130) rfl hc)) ?_
    exact y_ret (xst_of (i := .return_) (len := 1) rfl rfl rfl) ⟨_, rfl, R, H⟩
  · replace H := H.2 hc
    refine y_next (pc' := 115) (xst_of (i := (.if_icmp .ge 18)) (len := 3) rfl rfl (xf_icmp_ge (t := 130) rfl hc)) ?_
    refine y_next (pc' := 116) (xst_of (i := (.aload_n 0)) (len := 1) rfl rfl (x_aloadV (xisV_r _) e0)) ?_
    refine y_next (pc' := 117) (xst_of (i := (.iload_n 1)) (len := 1) rfl rfl (x_ilo e1)) ?_
    refine y_next (pc' := 119) (xst_of (i := (.iload 4)) (len := 2) rfl rfl (x_ilo e4)) ?_
    refine y_next (pc' := 120) (xst_of (i := .iadd) (len := 1) rfl rfl rfl) ?_
    refine y_next (pc' := 121) (xst_of (i := (.iconst 0)) (len := 1) rfl rfl (x_ico (v := 0) (by decide))) ?_
    refine z_cN (k := 66) (i := (.invokevirtual 38)) (as := [.ref (g.2 (7, 0, 0) 0), .int (l1 + l4), .int 0]) (rest := []) rfl rfl (x_callv rfl rfl (rc_ob R (rc_7 R) rfl) rfl rfl) (H _ _ R rfl rfl rfl) (fun h Y1 R H => ?_)
    refine z_in (q := 4) (n := 1) (v := 1) rfl e4 (by decide) (by decide) (fun lv1 hlv => ?_)
    have e0 := xs1_A hlv e0 rfl rfl
    have e1 := xs1_A hlv e1 rfl rfl
    have e2 := xs1_A hlv e2 rfl rfl
    have e3 := xs1_B hlv e3 rfl rfl
    have e4 := xs1_N hlv
    clear hlv
    refine y_next (pc' := 109) (xst_of (i := (.goto (-18))) (len := 3) rfl rfl rfl) ?_
    exact H _ _ R e0 e1 e2 e3 e4
theorem l_74_0 {V : xV} {g : xG} {Y : xW} {l1 : Int32} {Q : xW → Prop} (H : L_74_4 V g Y l1 0 0 Q) : L_74_0 V g Y l1 Q := by
  intro h lv R e0 e1
  refine y_next (pc' := 1) (xst_of (i := (.iconst 0)) (len := 1) rfl rfl (x_ico (v := 0) (by decide))) ?_
  refine z_is (i := (.istore_n 2)) (len := 1) (pc' := 2) (q := 2) rfl rfl rfl (by decide) (fun lv1 hlv => ?_)
  have e0 := xs1_A hlv e0 rfl rfl
  have e1 := xs1_B hlv e1 rfl rfl
  have e2 := xs1_N hlv
  clear hlv
  refine y_next (pc' := 3) (xst_of (i := (.iconst 0)) (len := 1) rfl rfl (x_ico (v := 0) (by decide))) ?_
  refine z_is (i := (.istore_n 3)) (len := 1) (pc' := 4) (q := 3) rfl rfl rfl (by decide) (fun lv2 hlv => ?_)
  have e0 := xs1_A hlv e0 rfl rfl
  have e1 := xs1_A hlv e1 rfl rfl
  have e2 := xs1_B hlv e2 rfl rfl
  have e3 := xs1_N hlv
  clear hlv
  exact H _ _ R e0 e1 e2 e3
theorem l_74_4 {V : xV} {g : xG} {Y : xW} {l1 : Int32} {l2 : Int32} {l3 : Int32} {Q : xW → Prop} (H : (((fI Y (7, 0, 0) 3) ≤ l3) → ∀ Y1, Y1 = uI Y (7, 0, 0) 3 l2 → Q Y1) ∧ (¬ ((fI Y (7, 0, 0) 3) ≤ l3) → vp_in l3 40 ∧ (((fA Y (7, 0, 0) 1 (Int32.toNatClampNeg l3)) = l1) → L_74_49 V g Y l1 l2 l3 Q) ∧ (¬ ((fA Y (7, 0, 0) 1 (Int32.toNatClampNeg l3)) = l1) → vp_in l3 40 ∧ vp_in l2 40 ∧ ∀ Y2, Y2 = uA Y (7, 0, 0) 1 (Int32.toNatClampNeg l2) (fA Y (7, 0, 0) 1 (Int32.toNatClampNeg l3)) → vp_in l3 40 ∧ vp_in l2 40 ∧ ∀ Y3, Y3 = uA Y2 (7, 0, 0) 2 (Int32.toNatClampNeg l2) (fA Y2 (7, 0, 0) 2 (Int32.toNatClampNeg l3)) → L_74_49 V g Y3 l1 (l2 + 1) l3 Q))) : L_74_4 V g Y l1 l2 l3 Q := by
  intro h lv R e0 e1 e2 e3
  refine y_next (pc' := 5) (xst_of (i := (.iload_n 3)) (len := 1) rfl rfl (x_ilo e3)) ?_
  refine y_next (pc' := 6) (xst_of (i := (.aload_n 0)) (len := 1) rfl rfl (x_aloadV (xisV_r _) e0)) ?_
  refine z_gI (t := (7, 0, 0)) (k := 3) rfl rfl rfl R (rc_7 R) ?_
  by_cases hc : (fI Y (7, 0, 0) 3) ≤ l3
  · replace H := H.1 hc
    refine y_next (xst_of (i := (.if_icmp .ge 46)) (len := 3) rfl rfl (xt_icmp_ge (t := 55) rfl hc)) ?_
    refine y_next (pc' := 56) (xst_of (i := (.aload_n 0)) (len := 1) rfl rfl (x_aloadV (xisV_r _) e0)) ?_
    refine y_next (pc' := 57) (xst_of (i := (.iload_n 2)) (len := 1) rfl rfl (x_ilo e2)) ?_
    refine z_pI (t := (7, 0, 0)) (k := 3) rfl rfl rfl rfl rfl R (rc_7 R) (fun h Y1 hY R => ?_)
    replace H := H Y1 hY
    clear hY
    exact y_ret (xst_of (i := .return_) (len := 1) rfl rfl rfl) ⟨_, rfl, R, H⟩
  · replace H := H.2 hc
    refine y_next (pc' := 12) (xst_of (i := (.if_icmp .ge 46)) (len := 3) rfl rfl (xf_icmp_ge (t := 55) rfl hc)) ?_
    refine y_next (pc' := 13) (xst_of (i := (.aload_n 0)) (len := 1) rfl rfl (x_aloadV (xisV_r _) e0)) ?_
    refine z_gA (t := (7, 0, 0)) (k := 1) rfl rfl rfl R (rc_7 R) ?_
    refine y_next (pc' := 17) (xst_of (i := (.iload_n 3)) (len := 1) rfl rfl (x_ilo e3)) ?_
    refine z_aI (t := (7, 0, 0)) (k := 1) (n := 40) (i := l3) rfl rfl R (rc_7 R) H.1 ?_
    replace H := H.2
    refine y_next (pc' := 19) (xst_of (i := (.iload_n 1)) (len := 1) rfl rfl (x_ilo e1)) ?_
    by_cases hc : (fA Y (7, 0, 0) 1 (Int32.toNatClampNeg l3)) = l1
    · replace H := H.1 hc
      refine y_next (xst_of (i := (.if_icmp .eq 30)) (len := 3) rfl rfl (xt_icmp_eq (t := 49) rfl hc)) ?_
      exact H _ _ R e0 e1 e2 e3
    · replace H := H.2 hc
      refine y_next (pc' := 22) (xst_of (i := (.if_icmp .eq 30)) (len := 3) rfl rfl (xf_icmp_eq (t := 49) rfl hc)) ?_
      refine y_next (pc' := 23) (xst_of (i := (.aload_n 0)) (len := 1) rfl rfl (x_aloadV (xisV_r _) e0)) ?_
      refine z_gA (t := (7, 0, 0)) (k := 1) rfl rfl rfl R (rc_7 R) ?_
      refine y_next (pc' := 27) (xst_of (i := (.iload_n 2)) (len := 1) rfl rfl (x_ilo e2)) ?_
      refine y_next (pc' := 28) (xst_of (i := (.aload_n 0)) (len := 1) rfl rfl (x_aloadV (xisV_r _) e0)) ?_
      refine z_gA (t := (7, 0, 0)) (k := 1) rfl rfl rfl R (rc_7 R) ?_
      refine y_next (pc' := 32) (xst_of (i := (.iload_n 3)) (len := 1) rfl rfl (x_ilo e3)) ?_
      refine z_aI (t := (7, 0, 0)) (k := 1) (n := 40) (i := l3) rfl rfl R (rc_7 R) H.1 ?_
      replace H := H.2
      refine z_sI (t := (7, 0, 0)) (k := 1) (n := 40) (i := l2) rfl rfl R (rc_7 R) H.1 (fun h Y2 hY R => ?_)
      replace H := H.2 Y2 hY
      clear hY
      refine y_next (pc' := 35) (xst_of (i := (.aload_n 0)) (len := 1) rfl rfl (x_aloadV (xisV_r _) e0)) ?_
      refine z_gA (t := (7, 0, 0)) (k := 2) rfl rfl rfl R (rc_7 R) ?_
      refine y_next (pc' := 39) (xst_of (i := (.iload_n 2)) (len := 1) rfl rfl (x_ilo e2)) ?_
      refine y_next (pc' := 40) (xst_of (i := (.aload_n 0)) (len := 1) rfl rfl (x_aloadV (xisV_r _) e0)) ?_
      refine z_gA (t := (7, 0, 0)) (k := 2) rfl rfl rfl R (rc_7 R) ?_
      refine y_next (pc' := 44) (xst_of (i := (.iload_n 3)) (len := 1) rfl rfl (x_ilo e3)) ?_
      refine z_aI (t := (7, 0, 0)) (k := 2) (n := 40) (i := l3) rfl rfl R (rc_7 R) H.1 ?_
      replace H := H.2
      refine z_sI (t := (7, 0, 0)) (k := 2) (n := 40) (i := l2) rfl rfl R (rc_7 R) H.1 (fun h Y3 hY R => ?_)
      replace H := H.2 Y3 hY
      clear hY
      refine z_in (q := 2) (n := 1) (v := 1) rfl e2 (by decide) (by decide) (fun lv1 hlv => ?_)
      have e0 := xs1_A hlv e0 rfl rfl
      have e1 := xs1_B hlv e1 rfl rfl
      have e3 := xs1_A hlv e3 rfl rfl
      have e2 := xs1_N hlv
      clear hlv
      exact H _ _ R e0 e1 e2 e3
theorem l_74_49 {V : xV} {g : xG} {Y : xW} {l1 : Int32} {l2 : Int32} {l3 : Int32} {Q : xW → Prop} (H : L_74_4 V g Y l1 l2 (l3 + 1) Q) : L_74_49 V g Y l1 l2 l3 Q := by
  intro h lv R e0 e1 e2 e3
  refine z_in (q := 3) (n := 1) (v := 1) rfl e3 (by decide) (by decide) (fun lv1 hlv => ?_)
  have e0 := xs1_A hlv e0 rfl rfl
  have e1 := xs1_A hlv e1 rfl rfl
  have e2 := xs1_B hlv e2 rfl rfl
  have e3 := xs1_N hlv
  clear hlv
  refine y_next (pc' := 4) (xst_of (i := (.goto (-48))) (len := 3) rfl rfl rfl) ?_
  exact H _ _ R e0 e1 e2 e3
theorem l_76_0 {V : xV} {g : xG} {Y : xW} {l0 : xT} {l1 : Int32} {Q : Int32 → xW → Prop} (H : vp_in l1 8 ∧ Q (fA Y l0 0 (Int32.toNatClampNeg l1)) Y) : L_76_0 V g Y l0 l1 Q := by
  intro h lv R e0 e1 ok_l0
  refine y_next (pc' := 1) (xst_of (i := (.aload_n 0)) (len := 1) rfl rfl (x_aloadV (xisV_r _) e0)) ?_
  refine z_gA (t := l0) (k := 0) rfl rfl rfl R ok_l0 ?_
  refine y_next (pc' := 5) (xst_of (i := (.iload_n 1)) (len := 1) rfl rfl (x_ilo e1)) ?_
  refine z_aI (t := l0) (k := 0) (n := 8) (i := l1) rfl rfl R ok_l0 H.1 ?_
  replace H := H.2
  exact y_ret (xst_of (i := .ireturn) (len := 1) rfl rfl rfl) ⟨_, _, rfl, R, H⟩
theorem l_77_0 {V : xV} {g : xG} {Y : xW} {l0 : xT} {l1 : Int32} {Q : Int64 → xW → Prop} (H : vp_in l1 8 ∧ Q (Int32.toInt64 (fA Y l0 1 (Int32.toNatClampNeg l1))) Y) : L_77_0 V g Y l0 l1 Q := by
  intro h lv R e0 e1 ok_l0
  refine y_next (pc' := 1) (xst_of (i := (.aload_n 0)) (len := 1) rfl rfl (x_aloadV (xisV_r _) e0)) ?_
  refine z_gA (t := l0) (k := 1) rfl rfl rfl R ok_l0 ?_
  refine y_next (pc' := 5) (xst_of (i := (.iload_n 1)) (len := 1) rfl rfl (x_ilo e1)) ?_
  refine z_aI (t := l0) (k := 1) (n := 8) (i := l1) rfl rfl R ok_l0 H.1 ?_
  replace H := H.2
  refine y_next (pc' := 7) (xst_of (i := .i2l) (len := 1) rfl rfl rfl) ?_
  exact y_ret (xst_of (i := .lreturn) (len := 1) rfl rfl rfl) ⟨_, _, rfl, R, H⟩
theorem l_78_0 {V : xV} {g : xG} {Y : xW} {l0 : xT} {l1 : Int32} {Q : Int64 → xW → Prop} (H : vp_in l1 8 ∧ Q (Int32.toInt64 (fA Y l0 2 (Int32.toNatClampNeg l1))) Y) : L_78_0 V g Y l0 l1 Q := by
  intro h lv R e0 e1 ok_l0
  refine y_next (pc' := 1) (xst_of (i := (.aload_n 0)) (len := 1) rfl rfl (x_aloadV (xisV_r _) e0)) ?_
  refine z_gA (t := l0) (k := 2) rfl rfl rfl R ok_l0 ?_
  refine y_next (pc' := 5) (xst_of (i := (.iload_n 1)) (len := 1) rfl rfl (x_ilo e1)) ?_
  refine z_aI (t := l0) (k := 2) (n := 8) (i := l1) rfl rfl R ok_l0 H.1 ?_
  replace H := H.2
  refine y_next (pc' := 7) (xst_of (i := .i2l) (len := 1) rfl rfl rfl) ?_
  exact y_ret (xst_of (i := .lreturn) (len := 1) rfl rfl rfl) ⟨_, _, rfl, R, H⟩
theorem l_79_0 {V : xV} {g : xG} {Y : xW} {l0 : xT} {l1 : Int32} {Q : Int32 → xW → Prop} (H : vp_in l1 8 ∧ (((fA Y l0 0 (Int32.toNatClampNeg l1)) = 1) → L_79_15 V g Y l0 l1 1 Q) ∧ (¬ ((fA Y l0 0 (Int32.toNatClampNeg l1)) = 1) → L_79_15 V g Y l0 l1 0 Q)) : L_79_0 V g Y l0 l1 Q := by
  intro h lv R e0 e1 ok_l0
  refine y_next (pc' := 1) (xst_of (i := (.aload_n 0)) (len := 1) rfl rfl (x_aloadV (xisV_r _) e0)) ?_
  refine z_gA (t := l0) (k := 0) rfl rfl rfl R ok_l0 ?_
  refine y_next (pc' := 5) (xst_of (i := (.iload_n 1)) (len := 1) rfl rfl (x_ilo e1)) ?_
  refine z_aI (t := l0) (k := 0) (n := 8) (i := l1) rfl rfl R ok_l0 H.1 ?_
  replace H := H.2
  refine y_next (pc' := 7) (xst_of (i := (.iconst 1)) (len := 1) rfl rfl (x_ico (v := 1) (by decide))) ?_
  by_cases hc : (fA Y l0 0 (Int32.toNatClampNeg l1)) = 1
  · replace H := H.1 hc
    refine y_next (pc' := 10) (xst_of (i := (.if_icmp .ne 7)) (len := 3) rfl rfl (xf_icmp_ne (t := 14) rfl (fun z => z hc))) ?_
    refine y_next (pc' := 11) (xst_of (i := (.iconst 1)) (len := 1) rfl rfl (x_ico (v := 1) (by decide))) ?_
    refine y_next (pc' := 15) (xst_of (i := (.goto 4)) (len := 3) rfl rfl rfl) ?_
    exact H _ _ R e0 e1 ok_l0
  · replace H := H.2 hc
    refine y_next (xst_of (i := (.if_icmp .ne 7)) (len := 3) rfl rfl (xt_icmp_ne (t := 14) rfl hc)) ?_
    refine y_next (pc' := 15) (xst_of (i := (.iconst 0)) (len := 1) rfl rfl (x_ico (v := 0) (by decide))) ?_
    exact H _ _ R e0 e1 ok_l0
theorem l_79_15 {V : xV} {g : xG} {Y : xW} {l0 : xT} {l1 : Int32} {s0 : Int32} {Q : Int32 → xW → Prop} (H : (s0 = 0 ∨ s0 = 1) ∧ Q s0 Y) : L_79_15 V g Y l0 l1 s0 Q := by
  intro h lv R e0 e1 ok_l0
  exact y_ret (xst_of (i := .ireturn) (len := 1) rfl rfl (x_zret rfl H.1)) ⟨_, _, rfl, R, H.2⟩
theorem l_80_0 {V : xV} {g : xG} {Y : xW} {l0 : xT} {l1 : Int32} {l2 : Int32} {l3 : Int32} {l4 : Int32} {Q : xW → Prop} (H : vp_in l1 8 ∧ ∀ Y1, Y1 = uA Y l0 0 (Int32.toNatClampNeg l1) l2 → vp_in l1 8 ∧ ∀ Y2, Y2 = uA Y1 l0 1 (Int32.toNatClampNeg l1) l3 → vp_in l1 8 ∧ ∀ Y3, Y3 = uA Y2 l0 2 (Int32.toNatClampNeg l1) l4 → Q Y3) : L_80_0 V g Y l0 l1 l2 l3 l4 Q := by
  intro h lv R e0 e1 e2 e3 e4 ok_l0
  refine y_next (pc' := 1) (xst_of (i := (.aload_n 0)) (len := 1) rfl rfl (x_aloadV (xisV_r _) e0)) ?_
  refine z_gA (t := l0) (k := 0) rfl rfl rfl R ok_l0 ?_
  refine y_next (pc' := 5) (xst_of (i := (.iload_n 1)) (len := 1) rfl rfl (x_ilo e1)) ?_
  refine y_next (pc' := 6) (xst_of (i := (.iload_n 2)) (len := 1) rfl rfl (x_ilo e2)) ?_
  refine z_sI (t := l0) (k := 0) (n := 8) (i := l1) rfl rfl R ok_l0 H.1 (fun h Y1 hY R => ?_)
  replace H := H.2 Y1 hY
  clear hY
  refine y_next (pc' := 8) (xst_of (i := (.aload_n 0)) (len := 1) rfl rfl (x_aloadV (xisV_r _) e0)) ?_
  refine z_gA (t := l0) (k := 1) rfl rfl rfl R ok_l0 ?_
  refine y_next (pc' := 12) (xst_of (i := (.iload_n 1)) (len := 1) rfl rfl (x_ilo e1)) ?_
  refine y_next (pc' := 13) (xst_of (i := (.iload_n 3)) (len := 1) rfl rfl (x_ilo e3)) ?_
  refine z_sI (t := l0) (k := 1) (n := 8) (i := l1) rfl rfl R ok_l0 H.1 (fun h Y2 hY R => ?_)
  replace H := H.2 Y2 hY
  clear hY
  refine y_next (pc' := 15) (xst_of (i := (.aload_n 0)) (len := 1) rfl rfl (x_aloadV (xisV_r _) e0)) ?_
  refine z_gA (t := l0) (k := 2) rfl rfl rfl R ok_l0 ?_
  refine y_next (pc' := 19) (xst_of (i := (.iload_n 1)) (len := 1) rfl rfl (x_ilo e1)) ?_
  refine y_next (pc' := 21) (xst_of (i := (.iload 4)) (len := 2) rfl rfl (x_ilo e4)) ?_
  refine z_sI (t := l0) (k := 2) (n := 8) (i := l1) rfl rfl R ok_l0 H.1 (fun h Y3 hY R => ?_)
  replace H := H.2 Y3 hY
  clear hY
  exact y_ret (xst_of (i := .return_) (len := 1) rfl rfl rfl) ⟨_, rfl, R, H⟩
theorem l_81_0 {V : xV} {g : xG} {Y : xW} {l0 : xT} {l1 : Int32} {l2 : Int64} {l4 : Int64} {Q : xW → Prop} (H : ((l2 < (-2147483648)) → L_81_21 V g Y l0 l1 l2 l4 Q) ∧ (¬ (l2 < (-2147483648)) → ((2147483647 < l4) → L_81_21 V g Y l0 l1 l2 l4 Q) ∧ (¬ (2147483647 < l4) → L_81_22 V g Y l0 l1 l2 l4 1 Q))) : L_81_0 V g Y l0 l1 l2 l4 Q := by
  intro h lv R e0 e1 e2 e4 ok_l0
  refine y_next (pc' := 1) (xst_of (i := (.lload_n 2)) (len := 1) rfl rfl (x_llo e2)) ?_
  refine y_next (pc' := 4) (xst_of (i := (.ldc2_w 23)) (len := 3) rfl rfl rfl) ?_
  refine y_next (pc' := 5) (xst_of (i := .lcmp) (len := 1) rfl rfl rfl) ?_
  by_cases hc : l2 < (-2147483648)
  · replace H := H.1 hc
    refine y_next (xst_of (i := (.ifCond .lt 16)) (len := 3) rfl rfl (xt_if_lt (t := 21) rfl ((lg_cmp_lt l2 (-2147483648)).mpr hc))) ?_
    exact H _ _ R e0 e1 e2 e4 ok_l0
  · replace H := H.2 hc
    refine y_next (pc' := 8) (xst_of (i := (.ifCond .lt 16)) (len := 3) rfl rfl (xf_if_lt (t := 21) rfl (fun z => hc ((lg_cmp_lt l2 (-2147483648)).mp z)))) ?_
    refine y_next (pc' := 10) (xst_of (i := (.lload 4)) (len := 2) rfl rfl (x_llo e4)) ?_
    refine y_next (pc' := 13) (xst_of (i := (.ldc2_w 25)) (len := 3) rfl rfl rfl) ?_
    refine y_next (pc' := 14) (xst_of (i := .lcmp) (len := 1) rfl rfl rfl) ?_
    by_cases hc : 2147483647 < l4
    · replace H := H.1 hc
      refine y_next (xst_of (i := (.ifCond .gt 7)) (len := 3) rfl rfl (xt_if_gt (t := 21) rfl ((lg_cmp_gt l4 2147483647).mpr hc))) ?_
      exact H _ _ R e0 e1 e2 e4 ok_l0
    · replace H := H.2 hc
      refine y_next (pc' := 17) (xst_of (i := (.ifCond .gt 7)) (len := 3) rfl rfl (xf_if_gt (t := 21) rfl (fun z => hc ((lg_cmp_gt l4 2147483647).mp z)))) ?_
      refine y_next (pc' := 18) (xst_of (i := (.iconst 1)) (len := 1) rfl rfl (x_ico (v := 1) (by decide))) ?_
      refine y_next (pc' := 22) (xst_of (i := (.goto 4)) (len := 3) rfl rfl rfl) ?_
      exact H _ _ R e0 e1 e2 e4 ok_l0
theorem l_81_21 {V : xV} {g : xG} {Y : xW} {l0 : xT} {l1 : Int32} {l2 : Int64} {l4 : Int64} {Q : xW → Prop} (H : L_81_22 V g Y l0 l1 l2 l4 0 Q) : L_81_21 V g Y l0 l1 l2 l4 Q := by
  intro h lv R e0 e1 e2 e4 ok_l0
  refine y_next (pc' := 22) (xst_of (i := (.iconst 0)) (len := 1) rfl rfl (x_ico (v := 0) (by decide))) ?_
  exact H _ _ R e0 e1 e2 e4 ok_l0
theorem l_81_22 {V : xV} {g : xG} {Y : xW} {l0 : xT} {l1 : Int32} {l2 : Int64} {l4 : Int64} {s0 : Int32} {Q : xW → Prop} (H : vp_in l1 8 ∧ ∀ Y1, Y1 = uA Y l0 0 (Int32.toNatClampNeg l1) 1 → ((s0 = 0) → L_81_48 V g Y1 l0 l1 l2 l4 s0 l0 l1 (-2147483648) Q) ∧ (¬ (s0 = 0) → L_81_48 V g Y1 l0 l1 l2 l4 s0 l0 l1 (Int64.toInt32 l2) Q)) : L_81_22 V g Y l0 l1 l2 l4 s0 Q := by
  intro h lv R e0 e1 e2 e4 ok_l0
  refine z_is (i := (.istore 6)) (len := 2) (pc' := 24) (q := 6) rfl rfl rfl (by decide) (fun lv1 hlv => ?_)
  have e0 := xs1_A hlv e0 rfl rfl
  have e1 := xs1_A hlv e1 rfl rfl
  have e2 := xs1_A hlv e2 rfl rfl
  have e4 := xs1_A hlv e4 rfl rfl
  have e6 := xs1_N hlv
  clear hlv
  refine y_next (pc' := 25) (xst_of (i := (.aload_n 0)) (len := 1) rfl rfl (x_aloadV (xisV_r _) e0)) ?_
  refine z_gA (t := l0) (k := 0) rfl rfl rfl R ok_l0 ?_
  refine y_next (pc' := 29) (xst_of (i := (.iload_n 1)) (len := 1) rfl rfl (x_ilo e1)) ?_
  refine y_next (pc' := 30) (xst_of (i := (.iconst 1)) (len := 1) rfl rfl (x_ico (v := 1) (by decide))) ?_
  refine z_sI (t := l0) (k := 0) (n := 8) (i := l1) rfl rfl R ok_l0 H.1 (fun h Y1 hY R => ?_)
  replace H := H.2 Y1 hY
  clear hY
  refine y_next (pc' := 32) (xst_of (i := (.aload_n 0)) (len := 1) rfl rfl (x_aloadV (xisV_r _) e0)) ?_
  refine z_gA (t := l0) (k := 1) rfl rfl rfl R ok_l0 ?_
  refine y_next (pc' := 36) (xst_of (i := (.iload_n 1)) (len := 1) rfl rfl (x_ilo e1)) ?_
  refine y_next (pc' := 38) (xst_of (i := (.iload 6)) (len := 2) rfl rfl (x_ilo e6)) ?_
  by_cases hc : s0 = 0
  · replace H := H.1 hc
    refine y_next (xst_of (i := (.ifCond .eq 8)) (len := 3) rfl rfl (xt_if_eq (t := 46) rfl hc)) ?_
    refine y_next (pc' := 48) (xst_of (i := (.ldc 27)) (len := 2) rfl rfl rfl) ?_
    exact H _ _ R e0 e1 e2 e4 e6 ok_l0 ok_l0
  · replace H := H.2 hc
    refine y_next (pc' := 41) (xst_of (i := (.ifCond .eq 8)) (len := 3) rfl rfl (xf_if_eq (t := 46) rfl hc)) ?_
    refine y_next (pc' := 42) (xst_of (i := (.lload_n 2)) (len := 1) rfl rfl (x_llo e2)) ?_
    refine y_next (pc' := 43) (xst_of (i := .l2i) (len := 1) rfl rfl rfl) ?_
    refine y_next (pc' := 48) (xst_of (i := (.goto 5)) (len := 3) rfl rfl rfl) ?_
    exact H _ _ R e0 e1 e2 e4 e6 ok_l0 ok_l0
theorem l_81_48 {V : xV} {g : xG} {Y : xW} {l0 : xT} {l1 : Int32} {l2 : Int64} {l4 : Int64} {l6 : Int32} {s0 : xT} {s1 : Int32} {s2 : Int32} {Q : xW → Prop} (H : vp_in s1 8 ∧ ∀ Y1, Y1 = uA Y s0 1 (Int32.toNatClampNeg s1) s2 → ((l6 = 0) → L_81_67 V g Y1 l0 l1 l2 l4 l6 l0 l1 2147483647 Q) ∧ (¬ (l6 = 0) → L_81_67 V g Y1 l0 l1 l2 l4 l6 l0 l1 (Int64.toInt32 l4) Q)) : L_81_48 V g Y l0 l1 l2 l4 l6 s0 s1 s2 Q := by
  intro h lv R e0 e1 e2 e4 e6 ok_l0 ok_s0
  refine z_sI (t := s0) (k := 1) (n := 8) (i := s1) rfl rfl R ok_s0 H.1 (fun h Y1 hY R => ?_)
  replace H := H.2 Y1 hY
  clear hY
  refine y_next (pc' := 50) (xst_of (i := (.aload_n 0)) (len := 1) rfl rfl (x_aloadV (xisV_r _) e0)) ?_
  refine z_gA (t := l0) (k := 2) rfl rfl rfl R ok_l0 ?_
  refine y_next (pc' := 54) (xst_of (i := (.iload_n 1)) (len := 1) rfl rfl (x_ilo e1)) ?_
  refine y_next (pc' := 56) (xst_of (i := (.iload 6)) (len := 2) rfl rfl (x_ilo e6)) ?_
  by_cases hc : l6 = 0
  · replace H := H.1 hc
    refine y_next (xst_of (i := (.ifCond .eq 9)) (len := 3) rfl rfl (xt_if_eq (t := 65) rfl hc)) ?_
    refine y_next (pc' := 67) (xst_of (i := (.ldc 28)) (len := 2) rfl rfl rfl) ?_
    exact H _ _ R e0 e1 e2 e4 e6 ok_l0 ok_l0
  · replace H := H.2 hc
    refine y_next (pc' := 59) (xst_of (i := (.ifCond .eq 9)) (len := 3) rfl rfl (xf_if_eq (t := 65) rfl hc)) ?_
    refine y_next (pc' := 61) (xst_of (i := (.lload 4)) (len := 2) rfl rfl (x_llo e4)) ?_
    refine y_next (pc' := 62) (xst_of (i := .l2i) (len := 1) rfl rfl rfl) ?_
    refine y_next (pc' := 67) (xst_of (i := (.goto 5)) (len := 3) rfl rfl rfl) ?_
    exact H _ _ R e0 e1 e2 e4 e6 ok_l0 ok_l0
theorem l_81_67 {V : xV} {g : xG} {Y : xW} {l0 : xT} {l1 : Int32} {l2 : Int64} {l4 : Int64} {l6 : Int32} {s0 : xT} {s1 : Int32} {s2 : Int32} {Q : xW → Prop} (H : vp_in s1 8 ∧ ∀ Y1, Y1 = uA Y s0 2 (Int32.toNatClampNeg s1) s2 → Q Y1) : L_81_67 V g Y l0 l1 l2 l4 l6 s0 s1 s2 Q := by
  intro h lv R e0 e1 e2 e4 e6 ok_l0 ok_s0
  refine z_sI (t := s0) (k := 2) (n := 8) (i := s1) rfl rfl R ok_s0 H.1 (fun h Y1 hY R => ?_)
  replace H := H.2 Y1 hY
  clear hY
  exact y_ret (xst_of (i := .return_) (len := 1) rfl rfl rfl) ⟨_, rfl, R, H⟩
theorem l_82_0 {V : xV} {g : xG} {Y : xW} {l0 : xT} {l1 : Int32} {l2 : Int32} {Q : xW → Prop} (H : vp_in l2 8 ∧ vp_in l2 8 ∧ vp_in l2 8 ∧ L_80_0 V g Y l0 l1 (fA Y l0 0 (Int32.toNatClampNeg l2)) (fA Y l0 1 (Int32.toNatClampNeg l2)) (fA Y l0 2 (Int32.toNatClampNeg l2)) (fun Y1 => Q Y1)) : L_82_0 V g Y l0 l1 l2 Q := by
  intro h lv R e0 e1 e2 ok_l0
  refine y_next (pc' := 1) (xst_of (i := (.aload_n 0)) (len := 1) rfl rfl (x_aloadV (xisV_r _) e0)) ?_
  refine y_next (pc' := 2) (xst_of (i := (.iload_n 1)) (len := 1) rfl rfl (x_ilo e1)) ?_
  refine y_next (pc' := 3) (xst_of (i := (.aload_n 0)) (len := 1) rfl rfl (x_aloadV (xisV_r _) e0)) ?_
  refine z_gA (t := l0) (k := 0) rfl rfl rfl R ok_l0 ?_
  refine y_next (pc' := 7) (xst_of (i := (.iload_n 2)) (len := 1) rfl rfl (x_ilo e2)) ?_
  refine z_aI (t := l0) (k := 0) (n := 8) (i := l2) rfl rfl R ok_l0 H.1 ?_
  replace H := H.2
  refine y_next (pc' := 9) (xst_of (i := (.aload_n 0)) (len := 1) rfl rfl (x_aloadV (xisV_r _) e0)) ?_
  refine z_gA (t := l0) (k := 1) rfl rfl rfl R ok_l0 ?_
  refine y_next (pc' := 13) (xst_of (i := (.iload_n 2)) (len := 1) rfl rfl (x_ilo e2)) ?_
  refine z_aI (t := l0) (k := 1) (n := 8) (i := l2) rfl rfl R ok_l0 H.1 ?_
  replace H := H.2
  refine y_next (pc' := 15) (xst_of (i := (.aload_n 0)) (len := 1) rfl rfl (x_aloadV (xisV_r _) e0)) ?_
  refine z_gA (t := l0) (k := 2) rfl rfl rfl R ok_l0 ?_
  refine y_next (pc' := 19) (xst_of (i := (.iload_n 2)) (len := 1) rfl rfl (x_ilo e2)) ?_
  refine z_aI (t := l0) (k := 2) (n := 8) (i := l2) rfl rfl R ok_l0 H.1 ?_
  replace H := H.2
  refine z_cN (k := 80) (i := (.invokevirtual 29)) (as := [.ref (g.2 l0 0), .int l1, .int (fA Y l0 0 (Int32.toNatClampNeg l2)), .int (fA Y l0 1 (Int32.toNatClampNeg l2)), .int (fA Y l0 2 (Int32.toNatClampNeg l2))]) (rest := []) rfl rfl (x_callv rfl rfl (rc_ob R ok_l0 rfl) rfl rfl) (H _ _ R rfl rfl rfl rfl rfl ok_l0) (fun h Y1 R H => ?_)
  exact y_ret (xst_of (i := .return_) (len := 1) rfl rfl rfl) ⟨_, rfl, R, H⟩
theorem l_83_0 {V : xV} {g : xG} {Y : xW} {l0 : xT} {Q : xW → Prop} (H : L_83_2 V g Y l0 0 Q) : L_83_0 V g Y l0 Q := by
  intro h lv R e0 ok_l0
  refine y_next (pc' := 1) (xst_of (i := (.iconst 0)) (len := 1) rfl rfl (x_ico (v := 0) (by decide))) ?_
  refine z_is (i := (.istore_n 1)) (len := 1) (pc' := 2) (q := 1) rfl rfl rfl (by decide) (fun lv1 hlv => ?_)
  have e0 := xs1_B hlv e0 rfl rfl
  have e1 := xs1_N hlv
  clear hlv
  exact H _ _ R e0 e1 ok_l0
theorem l_83_2 {V : xV} {g : xG} {Y : xW} {l0 : xT} {l1 : Int32} {Q : xW → Prop} (H : ((8 ≤ l1) → Q Y) ∧ (¬ (8 ≤ l1) → L_80_0 V g Y l0 l1 0 0 0 (fun Y1 => L_83_2 V g Y1 l0 (l1 + 1) Q))) : L_83_2 V g Y l0 l1 Q := by
  intro h lv R e0 e1 ok_l0
  refine y_next (pc' := 3) (xst_of (i := (.iload_n 1)) (len := 1) rfl rfl (x_ilo e1)) ?_
  refine y_next (pc' := 5) (xst_of (i := (.bipush 8)) (len := 2) rfl rfl (x_bip (v := 8) (by decide))) ?_
  by_cases hc : 8 ≤ l1
  · replace H := H.1 hc
    refine y_next (xst_of (i := (.if_icmp .ge 17)) (len := 3) rfl rfl (xt_icmp_ge (t := 22) rfl hc)) ?_
    exact y_ret (xst_of (i := .return_) (len := 1) rfl rfl rfl) ⟨_, rfl, R, H⟩
  · replace H := H.2 hc
    refine y_next (pc' := 8) (xst_of (i := (.if_icmp .ge 17)) (len := 3) rfl rfl (xf_icmp_ge (t := 22) rfl hc)) ?_
    refine y_next (pc' := 9) (xst_of (i := (.aload_n 0)) (len := 1) rfl rfl (x_aloadV (xisV_r _) e0)) ?_
    refine y_next (pc' := 10) (xst_of (i := (.iload_n 1)) (len := 1) rfl rfl (x_ilo e1)) ?_
    refine y_next (pc' := 11) (xst_of (i := (.iconst 0)) (len := 1) rfl rfl (x_ico (v := 0) (by decide))) ?_
    refine y_next (pc' := 12) (xst_of (i := (.iconst 0)) (len := 1) rfl rfl (x_ico (v := 0) (by decide))) ?_
    refine y_next (pc' := 13) (xst_of (i := (.iconst 0)) (len := 1) rfl rfl (x_ico (v := 0) (by decide))) ?_
    refine z_cN (k := 80) (i := (.invokevirtual 29)) (as := [.ref (g.2 l0 0), .int l1, .int 0, .int 0, .int 0]) (rest := []) rfl rfl (x_callv rfl rfl (rc_ob R ok_l0 rfl) rfl rfl) (H _ _ R rfl rfl rfl rfl rfl ok_l0) (fun h Y1 R H => ?_)
    refine z_in (q := 1) (n := 1) (v := 1) rfl e1 (by decide) (by decide) (fun lv1 hlv => ?_)
    have e0 := xs1_B hlv e0 rfl rfl
    have e1 := xs1_N hlv
    clear hlv
    refine y_next (pc' := 2) (xst_of (i := (.goto (-17))) (len := 3) rfl rfl rfl) ?_
    exact H _ _ R e0 e1 ok_l0
theorem l_84_0 {V : xV} {g : xG} {Y : xW} {l0 : xT} {l1 : xT} {Q : xW → Prop} (H : L_84_2 V g Y l0 l1 0 Q) : L_84_0 V g Y l0 l1 Q := by
  intro h lv R e0 e1 ok_l0 ok_l1
  refine y_next (pc' := 1) (xst_of (i := (.iconst 0)) (len := 1) rfl rfl (x_ico (v := 0) (by decide))) ?_
  refine z_is (i := (.istore_n 2)) (len := 1) (pc' := 2) (q := 2) rfl rfl rfl (by decide) (fun lv1 hlv => ?_)
  have e0 := xs1_A hlv e0 rfl rfl
  have e1 := xs1_B hlv e1 rfl rfl
  have e2 := xs1_N hlv
  clear hlv
  exact H _ _ R e0 e1 e2 ok_l0 ok_l1
theorem l_84_2 {V : xV} {g : xG} {Y : xW} {l0 : xT} {l1 : xT} {l2 : Int32} {Q : xW → Prop} (H : ((8 ≤ l2) → Q Y) ∧ (¬ (8 ≤ l2) → vp_in l2 8 ∧ vp_in l2 8 ∧ vp_in l2 8 ∧ L_80_0 V g Y l0 l2 (fA Y l1 0 (Int32.toNatClampNeg l2)) (fA Y l1 1 (Int32.toNatClampNeg l2)) (fA Y l1 2 (Int32.toNatClampNeg l2)) (fun Y1 => L_84_2 V g Y1 l0 l1 (l2 + 1) Q))) : L_84_2 V g Y l0 l1 l2 Q := by
  intro h lv R e0 e1 e2 ok_l0 ok_l1
  refine y_next (pc' := 3) (xst_of (i := (.iload_n 2)) (len := 1) rfl rfl (x_ilo e2)) ?_
  refine y_next (pc' := 5) (xst_of (i := (.bipush 8)) (len := 2) rfl rfl (x_bip (v := 8) (by decide))) ?_
  by_cases hc : 8 ≤ l2
  · replace H := H.1 hc
    refine y_next (xst_of (i := (.if_icmp .ge 32)) (len := 3) rfl rfl (xt_icmp_ge (t := 37) rfl hc)) ?_
    exact y_ret (xst_of (i := .return_) (len := 1) rfl rfl rfl) ⟨_, rfl, R, H⟩
  · replace H := H.2 hc
    refine y_next (pc' := 8) (xst_of (i := (.if_icmp .ge 32)) (len := 3) rfl rfl (xf_icmp_ge (t := 37) rfl hc)) ?_
    refine y_next (pc' := 9) (xst_of (i := (.aload_n 0)) (len := 1) rfl rfl (x_aloadV (xisV_r _) e0)) ?_
    refine y_next (pc' := 10) (xst_of (i := (.iload_n 2)) (len := 1) rfl rfl (x_ilo e2)) ?_
    refine y_next (pc' := 11) (xst_of (i := (.aload_n 1)) (len := 1) rfl rfl (x_aloadV (xisV_r _) e1)) ?_
    refine z_gA (t := l1) (k := 0) rfl rfl rfl R ok_l1 ?_
    refine y_next (pc' := 15) (xst_of (i := (.iload_n 2)) (len := 1) rfl rfl (x_ilo e2)) ?_
    refine z_aI (t := l1) (k := 0) (n := 8) (i := l2) rfl rfl R ok_l1 H.1 ?_
    replace H := H.2
    refine y_next (pc' := 17) (xst_of (i := (.aload_n 1)) (len := 1) rfl rfl (x_aloadV (xisV_r _) e1)) ?_
    refine z_gA (t := l1) (k := 1) rfl rfl rfl R ok_l1 ?_
    refine y_next (pc' := 21) (xst_of (i := (.iload_n 2)) (len := 1) rfl rfl (x_ilo e2)) ?_
    refine z_aI (t := l1) (k := 1) (n := 8) (i := l2) rfl rfl R ok_l1 H.1 ?_
    replace H := H.2
    refine y_next (pc' := 23) (xst_of (i := (.aload_n 1)) (len := 1) rfl rfl (x_aloadV (xisV_r _) e1)) ?_
    refine z_gA (t := l1) (k := 2) rfl rfl rfl R ok_l1 ?_
    refine y_next (pc' := 27) (xst_of (i := (.iload_n 2)) (len := 1) rfl rfl (x_ilo e2)) ?_
    refine z_aI (t := l1) (k := 2) (n := 8) (i := l2) rfl rfl R ok_l1 H.1 ?_
    replace H := H.2
    refine z_cN (k := 80) (i := (.invokevirtual 29)) (as := [.ref (g.2 l0 0), .int l2, .int (fA Y l1 0 (Int32.toNatClampNeg l2)), .int (fA Y l1 1 (Int32.toNatClampNeg l2)), .int (fA Y l1 2 (Int32.toNatClampNeg l2))]) (rest := []) rfl rfl (x_callv rfl rfl (rc_ob R ok_l0 rfl) rfl rfl) (H _ _ R rfl rfl rfl rfl rfl ok_l0) (fun h Y1 R H => ?_)
    refine z_in (q := 2) (n := 1) (v := 1) rfl e2 (by decide) (by decide) (fun lv1 hlv => ?_)
    have e0 := xs1_A hlv e0 rfl rfl
    have e1 := xs1_B hlv e1 rfl rfl
    have e2 := xs1_N hlv
    clear hlv
    refine y_next (pc' := 2) (xst_of (i := (.goto (-32))) (len := 3) rfl rfl rfl) ?_
    exact H _ _ R e0 e1 e2 ok_l0 ok_l1
theorem l_85_0 {V : xV} {g : xG} {Y : xW} {l0 : xT} {l1 : xT} {Q : Int32 → xW → Prop} (H : L_85_2 V g Y l0 l1 0 Q) : L_85_0 V g Y l0 l1 Q := by
  intro h lv R e0 e1 ok_l0 ok_l1
  refine y_next (pc' := 1) (xst_of (i := (.iconst 0)) (len := 1) rfl rfl (x_ico (v := 0) (by decide))) ?_
  refine z_is (i := (.istore_n 2)) (len := 1) (pc' := 2) (q := 2) rfl rfl rfl (by decide) (fun lv1 hlv => ?_)
  have e0 := xs1_A hlv e0 rfl rfl
  have e1 := xs1_B hlv e1 rfl rfl
  have e2 := xs1_N hlv
  clear hlv
  exact H _ _ R e0 e1 e2 ok_l0 ok_l1
theorem l_85_2 {V : xV} {g : xG} {Y : xW} {l0 : xT} {l1 : xT} {l2 : Int32} {Q : Int32 → xW → Prop} (H : ((8 ≤ l2) → ((1 : Int32) = 0 ∨ (1 : Int32) = 1) ∧ Q 1 Y) ∧ (¬ (8 ≤ l2) → vp_in l2 8 ∧ vp_in l2 8 ∧ (((fA Y l1 0 (Int32.toNatClampNeg l2)) = (fA Y l0 0 (Int32.toNatClampNeg l2))) → vp_in l2 8 ∧ vp_in l2 8 ∧ (((fA Y l0 1 (Int32.toNatClampNeg l2)) < (fA Y l1 1 (Int32.toNatClampNeg l2))) → L_85_57 V g Y l0 l1 l2 Q) ∧ (¬ ((fA Y l0 1 (Int32.toNatClampNeg l2)) < (fA Y l1 1 (Int32.toNatClampNeg l2))) → vp_in l2 8 ∧ vp_in l2 8 ∧ (((fA Y l1 2 (Int32.toNatClampNeg l2)) < (fA Y l0 2 (Int32.toNatClampNeg l2))) → L_85_57 V g Y l0 l1 l2 Q) ∧ (¬ ((fA Y l1 2 (Int32.toNatClampNeg l2)) < (fA Y l0 2 (Int32.toNatClampNeg l2))) → L_85_58 V g Y l0 l1 l2 1 Q))) ∧ (¬ ((fA Y l1 0 (Int32.toNatClampNeg l2)) = (fA Y l0 0 (Int32.toNatClampNeg l2))) → L_85_57 V g Y l0 l1 l2 Q))) : L_85_2 V g Y l0 l1 l2 Q := by
  intro h lv R e0 e1 e2 ok_l0 ok_l1
  refine y_next (pc' := 3) (xst_of (i := (.iload_n 2)) (len := 1) rfl rfl (x_ilo e2)) ?_
  refine y_next (pc' := 5) (xst_of (i := (.bipush 8)) (len := 2) rfl rfl (x_bip (v := 8) (by decide))) ?_
  by_cases hc : 8 ≤ l2
  · replace H := H.1 hc
    refine y_next (xst_of (i := (.if_icmp .ge 75)) (len := 3) rfl rfl (xt_icmp_ge (t := 80) rfl hc)) ?_
    refine y_next (pc' := 81) (xst_of (i := (.iconst 1)) (len := 1) rfl rfl (x_ico (v := 1) (by decide))) ?_
    exact y_ret (xst_of (i := .ireturn) (len := 1) rfl rfl (x_zret rfl H.1)) ⟨_, _, rfl, R, H.2⟩
  · replace H := H.2 hc
    refine y_next (pc' := 8) (xst_of (i := (.if_icmp .ge 75)) (len := 3) rfl rfl (xf_icmp_ge (t := 80) rfl hc)) ?_
    refine y_next (pc' := 9) (xst_of (i := (.aload_n 1)) (len := 1) rfl rfl (x_aloadV (xisV_r _) e1)) ?_
    refine z_gA (t := l1) (k := 0) rfl rfl rfl R ok_l1 ?_
    refine y_next (pc' := 13) (xst_of (i := (.iload_n 2)) (len := 1) rfl rfl (x_ilo e2)) ?_
    refine z_aI (t := l1) (k := 0) (n := 8) (i := l2) rfl rfl R ok_l1 H.1 ?_
    replace H := H.2
    refine y_next (pc' := 15) (xst_of (i := (.aload_n 0)) (len := 1) rfl rfl (x_aloadV (xisV_r _) e0)) ?_
    refine z_gA (t := l0) (k := 0) rfl rfl rfl R ok_l0 ?_
    refine y_next (pc' := 19) (xst_of (i := (.iload_n 2)) (len := 1) rfl rfl (x_ilo e2)) ?_
    refine z_aI (t := l0) (k := 0) (n := 8) (i := l2) rfl rfl R ok_l0 H.1 ?_
    replace H := H.2
    by_cases hc : (fA Y l1 0 (Int32.toNatClampNeg l2)) = (fA Y l0 0 (Int32.toNatClampNeg l2))
    · replace H := H.1 hc
      refine y_next (pc' := 23) (xst_of (i := (.if_icmp .ne 37)) (len := 3) rfl rfl (xf_icmp_ne (t := 57) rfl (fun z => z hc))) ?_
      refine y_next (pc' := 24) (xst_of (i := (.aload_n 1)) (len := 1) rfl rfl (x_aloadV (xisV_r _) e1)) ?_
      refine z_gA (t := l1) (k := 1) rfl rfl rfl R ok_l1 ?_
      refine y_next (pc' := 28) (xst_of (i := (.iload_n 2)) (len := 1) rfl rfl (x_ilo e2)) ?_
      refine z_aI (t := l1) (k := 1) (n := 8) (i := l2) rfl rfl R ok_l1 H.1 ?_
      replace H := H.2
      refine y_next (pc' := 30) (xst_of (i := (.aload_n 0)) (len := 1) rfl rfl (x_aloadV (xisV_r _) e0)) ?_
      refine z_gA (t := l0) (k := 1) rfl rfl rfl R ok_l0 ?_
      refine y_next (pc' := 34) (xst_of (i := (.iload_n 2)) (len := 1) rfl rfl (x_ilo e2)) ?_
      refine z_aI (t := l0) (k := 1) (n := 8) (i := l2) rfl rfl R ok_l0 H.1 ?_
      replace H := H.2
      by_cases hc : (fA Y l0 1 (Int32.toNatClampNeg l2)) < (fA Y l1 1 (Int32.toNatClampNeg l2))
      · replace H := H.1 hc
        refine y_next (xst_of (i := (.if_icmp .gt 22)) (len := 3) rfl rfl (xt_icmp_gt (t := 57) rfl hc)) ?_
        exact H _ _ R e0 e1 e2 ok_l0 ok_l1
      · replace H := H.2 hc
        refine y_next (pc' := 38) (xst_of (i := (.if_icmp .gt 22)) (len := 3) rfl rfl (xf_icmp_gt (t := 57) rfl hc)) ?_
        refine y_next (pc' := 39) (xst_of (i := (.aload_n 0)) (len := 1) rfl rfl (x_aloadV (xisV_r _) e0)) ?_
        refine z_gA (t := l0) (k := 2) rfl rfl rfl R ok_l0 ?_
        refine y_next (pc' := 43) (xst_of (i := (.iload_n 2)) (len := 1) rfl rfl (x_ilo e2)) ?_
        refine z_aI (t := l0) (k := 2) (n := 8) (i := l2) rfl rfl R ok_l0 H.1 ?_
        replace H := H.2
        refine y_next (pc' := 45) (xst_of (i := (.aload_n 1)) (len := 1) rfl rfl (x_aloadV (xisV_r _) e1)) ?_
        refine z_gA (t := l1) (k := 2) rfl rfl rfl R ok_l1 ?_
        refine y_next (pc' := 49) (xst_of (i := (.iload_n 2)) (len := 1) rfl rfl (x_ilo e2)) ?_
        refine z_aI (t := l1) (k := 2) (n := 8) (i := l2) rfl rfl R ok_l1 H.1 ?_
        replace H := H.2
        by_cases hc : (fA Y l1 2 (Int32.toNatClampNeg l2)) < (fA Y l0 2 (Int32.toNatClampNeg l2))
        · replace H := H.1 hc
          refine y_next (xst_of (i := (.if_icmp .gt 7)) (len := 3) rfl rfl (xt_icmp_gt (t := 57) rfl hc)) ?_
          exact H _ _ R e0 e1 e2 ok_l0 ok_l1
        · replace H := H.2 hc
          refine y_next (pc' := 53) (xst_of (i := (.if_icmp .gt 7)) (len := 3) rfl rfl (xf_icmp_gt (t := 57) rfl hc)) ?_
          refine y_next (pc' := 54) (xst_of (i := (.iconst 1)) (len := 1) rfl rfl (x_ico (v := 1) (by decide))) ?_
          refine y_next (pc' := 58) (xst_of (i := (.goto 4)) (len := 3) rfl rfl rfl) ?_
          exact H _ _ R e0 e1 e2 ok_l0 ok_l1
    · replace H := H.2 hc
      refine y_next (xst_of (i := (.if_icmp .ne 37)) (len := 3) rfl rfl (xt_icmp_ne (t := 57) rfl hc)) ?_
      exact H _ _ R e0 e1 e2 ok_l0 ok_l1
theorem l_85_57 {V : xV} {g : xG} {Y : xW} {l0 : xT} {l1 : xT} {l2 : Int32} {Q : Int32 → xW → Prop} (H : L_85_58 V g Y l0 l1 l2 0 Q) : L_85_57 V g Y l0 l1 l2 Q := by
  intro h lv R e0 e1 e2 ok_l0 ok_l1
  refine y_next (pc' := 58) (xst_of (i := (.iconst 0)) (len := 1) rfl rfl (x_ico (v := 0) (by decide))) ?_
  exact H _ _ R e0 e1 e2 ok_l0 ok_l1
theorem l_85_58 {V : xV} {g : xG} {Y : xW} {l0 : xT} {l1 : xT} {l2 : Int32} {s0 : Int32} {Q : Int32 → xW → Prop} (H : vp_in l2 8 ∧ (((fA Y l1 0 (Int32.toNatClampNeg l2)) = 0) → L_85_74 V g Y l0 l1 l2 s0 Q) ∧ (¬ ((fA Y l1 0 (Int32.toNatClampNeg l2)) = 0) → ((s0 = 0) → ((0 : Int32) = 0 ∨ (0 : Int32) = 1) ∧ Q 0 Y) ∧ (¬ (s0 = 0) → L_85_74 V g Y l0 l1 l2 s0 Q))) : L_85_58 V g Y l0 l1 l2 s0 Q := by
  intro h lv R e0 e1 e2 ok_l0 ok_l1
  refine z_is (i := (.istore_n 3)) (len := 1) (pc' := 59) (q := 3) rfl rfl rfl (by decide) (fun lv1 hlv => ?_)
  have e0 := xs1_A hlv e0 rfl rfl
  have e1 := xs1_A hlv e1 rfl rfl
  have e2 := xs1_B hlv e2 rfl rfl
  have e3 := xs1_N hlv
  clear hlv
  refine y_next (pc' := 60) (xst_of (i := (.aload_n 1)) (len := 1) rfl rfl (x_aloadV (xisV_r _) e1)) ?_
  refine z_gA (t := l1) (k := 0) rfl rfl rfl R ok_l1 ?_
  refine y_next (pc' := 64) (xst_of (i := (.iload_n 2)) (len := 1) rfl rfl (x_ilo e2)) ?_
  refine z_aI (t := l1) (k := 0) (n := 8) (i := l2) rfl rfl R ok_l1 H.1 ?_
  replace H := H.2
  by_cases hc : (fA Y l1 0 (Int32.toNatClampNeg l2)) = 0
  · replace H := H.1 hc
    refine y_next (xst_of (i := (.ifCond .eq 9)) (len := 3) rfl rfl (xt_if_eq (t := 74) rfl hc)) ?_
    exact H _ _ R e0 e1 e2 e3 ok_l0 ok_l1
  · replace H := H.2 hc
    refine y_next (pc' := 68) (xst_of (i := (.ifCond .eq 9)) (len := 3) rfl rfl (xf_if_eq (t := 74) rfl hc)) ?_
    refine y_next (pc' := 69) (xst_of (i := (.iload_n 3)) (len := 1) rfl rfl (x_ilo e3)) ?_
    by_cases hc : s0 = 0
    · replace H := H.1 hc
      refine y_next (pc' := 72) (xst_of (i := (.ifCond .ne 5)) (len := 3) rfl rfl (xf_if_ne (t := 74) rfl (fun z => z hc))) ?_
      refine y_next (pc' := 73) (xst_of (i := (.iconst 0)) (len := 1) rfl rfl (x_ico (v := 0) (by decide))) ?_
      exact y_ret (xst_of (i := .ireturn) (len := 1) rfl rfl (x_zret rfl H.1)) ⟨_, _, rfl, R, H.2⟩
    · replace H := H.2 hc
      refine y_next (xst_of (i := (.ifCond .ne 5)) (len := 3) rfl rfl (xt_if_ne (t := 74) rfl hc)) ?_
      exact H _ _ R e0 e1 e2 e3 ok_l0 ok_l1
theorem l_85_74 {V : xV} {g : xG} {Y : xW} {l0 : xT} {l1 : xT} {l2 : Int32} {l3 : Int32} {Q : Int32 → xW → Prop} (H : L_85_2 V g Y l0 l1 (l2 + 1) Q) : L_85_74 V g Y l0 l1 l2 l3 Q := by
  intro h lv R e0 e1 e2 e3 ok_l0 ok_l1
  refine z_in (q := 2) (n := 1) (v := 1) rfl e2 (by decide) (by decide) (fun lv1 hlv => ?_)
  have e0 := xs1_A hlv e0 rfl rfl
  have e1 := xs1_B hlv e1 rfl rfl
  have e3 := xs1_A hlv e3 rfl rfl
  have e2 := xs1_N hlv
  clear hlv
  refine y_next (pc' := 2) (xst_of (i := (.goto (-75))) (len := 3) rfl rfl rfl) ?_
  exact H _ _ R e0 e1 e2 ok_l0 ok_l1
theorem l_86_0 {V : xV} {g : xG} {Y : xW} {l0 : xT} {Q : Int32 → xW → Prop} (H : L_86_2 V g Y l0 0 Q) : L_86_0 V g Y l0 Q := by
  intro h lv R e0 ok_l0
  refine y_next (pc' := 1) (xst_of (i := (.iconst 0)) (len := 1) rfl rfl (x_ico (v := 0) (by decide))) ?_
  refine z_is (i := (.istore_n 1)) (len := 1) (pc' := 2) (q := 1) rfl rfl rfl (by decide) (fun lv1 hlv => ?_)
  have e0 := xs1_B hlv e0 rfl rfl
  have e1 := xs1_N hlv
  clear hlv
  exact H _ _ R e0 e1 ok_l0
theorem l_86_2 {V : xV} {g : xG} {Y : xW} {l0 : xT} {l1 : Int32} {Q : Int32 → xW → Prop} (H : ((8 ≤ l1) → ((1 : Int32) = 0 ∨ (1 : Int32) = 1) ∧ Q 1 Y) ∧ (¬ (8 ≤ l1) → vp_in l1 8 ∧ (((fA Y l0 0 (Int32.toNatClampNeg l1)) = 1) → vp_in l1 8 ∧ ((0 < (fA Y l0 1 (Int32.toNatClampNeg l1))) → L_86_40 V g Y l0 l1 Q) ∧ (¬ (0 < (fA Y l0 1 (Int32.toNatClampNeg l1))) → vp_in l1 8 ∧ (((fA Y l0 2 (Int32.toNatClampNeg l1)) < 0) → L_86_40 V g Y l0 l1 Q) ∧ (¬ ((fA Y l0 2 (Int32.toNatClampNeg l1)) < 0) → L_86_41 V g Y l0 l1 1 Q))) ∧ (¬ ((fA Y l0 0 (Int32.toNatClampNeg l1)) = 1) → L_86_40 V g Y l0 l1 Q))) : L_86_2 V g Y l0 l1 Q := by
  intro h lv R e0 e1 ok_l0
  refine y_next (pc' := 3) (xst_of (i := (.iload_n 1)) (len := 1) rfl rfl (x_ilo e1)) ?_
  refine y_next (pc' := 5) (xst_of (i := (.bipush 8)) (len := 2) rfl rfl (x_bip (v := 8) (by decide))) ?_
  by_cases hc : 8 ≤ l1
  · replace H := H.1 hc
    refine y_next (xst_of (i := (.if_icmp .ge 58)) (len := 3) rfl rfl (xt_icmp_ge (t := 63) rfl hc)) ?_
    refine y_next (pc' := 64) (xst_of (i := (.iconst 1)) (len := 1) rfl rfl (x_ico (v := 1) (by decide))) ?_
    exact y_ret (xst_of (i := .ireturn) (len := 1) rfl rfl (x_zret rfl H.1)) ⟨_, _, rfl, R, H.2⟩
  · replace H := H.2 hc
    refine y_next (pc' := 8) (xst_of (i := (.if_icmp .ge 58)) (len := 3) rfl rfl (xf_icmp_ge (t := 63) rfl hc)) ?_
    refine y_next (pc' := 9) (xst_of (i := (.aload_n 0)) (len := 1) rfl rfl (x_aloadV (xisV_r _) e0)) ?_
    refine z_gA (t := l0) (k := 0) rfl rfl rfl R ok_l0 ?_
    refine y_next (pc' := 13) (xst_of (i := (.iload_n 1)) (len := 1) rfl rfl (x_ilo e1)) ?_
    refine z_aI (t := l0) (k := 0) (n := 8) (i := l1) rfl rfl R ok_l0 H.1 ?_
    replace H := H.2
    refine y_next (pc' := 15) (xst_of (i := (.iconst 1)) (len := 1) rfl rfl (x_ico (v := 1) (by decide))) ?_
    by_cases hc : (fA Y l0 0 (Int32.toNatClampNeg l1)) = 1
    · replace H := H.1 hc
      refine y_next (pc' := 18) (xst_of (i := (.if_icmp .ne 25)) (len := 3) rfl rfl (xf_icmp_ne (t := 40) rfl (fun z => z hc))) ?_
      refine y_next (pc' := 19) (xst_of (i := (.aload_n 0)) (len := 1) rfl rfl (x_aloadV (xisV_r _) e0)) ?_
      refine z_gA (t := l0) (k := 1) rfl rfl rfl R ok_l0 ?_
      refine y_next (pc' := 23) (xst_of (i := (.iload_n 1)) (len := 1) rfl rfl (x_ilo e1)) ?_
      refine z_aI (t := l0) (k := 1) (n := 8) (i := l1) rfl rfl R ok_l0 H.1 ?_
      replace H := H.2
      by_cases hc : 0 < (fA Y l0 1 (Int32.toNatClampNeg l1))
      · replace H := H.1 hc
        refine y_next (xst_of (i := (.ifCond .gt 16)) (len := 3) rfl rfl (xt_if_gt (t := 40) rfl hc)) ?_
        exact H _ _ R e0 e1 ok_l0
      · replace H := H.2 hc
        refine y_next (pc' := 27) (xst_of (i := (.ifCond .gt 16)) (len := 3) rfl rfl (xf_if_gt (t := 40) rfl hc)) ?_
        refine y_next (pc' := 28) (xst_of (i := (.aload_n 0)) (len := 1) rfl rfl (x_aloadV (xisV_r _) e0)) ?_
        refine z_gA (t := l0) (k := 2) rfl rfl rfl R ok_l0 ?_
        refine y_next (pc' := 32) (xst_of (i := (.iload_n 1)) (len := 1) rfl rfl (x_ilo e1)) ?_
        refine z_aI (t := l0) (k := 2) (n := 8) (i := l1) rfl rfl R ok_l0 H.1 ?_
        replace H := H.2
        by_cases hc : (fA Y l0 2 (Int32.toNatClampNeg l1)) < 0
        · replace H := H.1 hc
          refine y_next (xst_of (i := (.ifCond .lt 7)) (len := 3) rfl rfl (xt_if_lt (t := 40) rfl hc)) ?_
          exact H _ _ R e0 e1 ok_l0
        · replace H := H.2 hc
          refine y_next (pc' := 36) (xst_of (i := (.ifCond .lt 7)) (len := 3) rfl rfl (xf_if_lt (t := 40) rfl hc)) ?_
          refine y_next (pc' := 37) (xst_of (i := (.iconst 1)) (len := 1) rfl rfl (x_ico (v := 1) (by decide))) ?_
          refine y_next (pc' := 41) (xst_of (i := (.goto 4)) (len := 3) rfl rfl rfl) ?_
          exact H _ _ R e0 e1 ok_l0
    · replace H := H.2 hc
      refine y_next (xst_of (i := (.if_icmp .ne 25)) (len := 3) rfl rfl (xt_icmp_ne (t := 40) rfl hc)) ?_
      exact H _ _ R e0 e1 ok_l0
theorem l_86_40 {V : xV} {g : xG} {Y : xW} {l0 : xT} {l1 : Int32} {Q : Int32 → xW → Prop} (H : L_86_41 V g Y l0 l1 0 Q) : L_86_40 V g Y l0 l1 Q := by
  intro h lv R e0 e1 ok_l0
  refine y_next (pc' := 41) (xst_of (i := (.iconst 0)) (len := 1) rfl rfl (x_ico (v := 0) (by decide))) ?_
  exact H _ _ R e0 e1 ok_l0
theorem l_86_41 {V : xV} {g : xG} {Y : xW} {l0 : xT} {l1 : Int32} {s0 : Int32} {Q : Int32 → xW → Prop} (H : vp_in l1 8 ∧ (((fA Y l0 0 (Int32.toNatClampNeg l1)) = 0) → L_86_57 V g Y l0 l1 s0 Q) ∧ (¬ ((fA Y l0 0 (Int32.toNatClampNeg l1)) = 0) → ((s0 = 0) → ((0 : Int32) = 0 ∨ (0 : Int32) = 1) ∧ Q 0 Y) ∧ (¬ (s0 = 0) → L_86_57 V g Y l0 l1 s0 Q))) : L_86_41 V g Y l0 l1 s0 Q := by
  intro h lv R e0 e1 ok_l0
  refine z_is (i := (.istore_n 2)) (len := 1) (pc' := 42) (q := 2) rfl rfl rfl (by decide) (fun lv1 hlv => ?_)
  have e0 := xs1_A hlv e0 rfl rfl
  have e1 := xs1_B hlv e1 rfl rfl
  have e2 := xs1_N hlv
  clear hlv
  refine y_next (pc' := 43) (xst_of (i := (.aload_n 0)) (len := 1) rfl rfl (x_aloadV (xisV_r _) e0)) ?_
  refine z_gA (t := l0) (k := 0) rfl rfl rfl R ok_l0 ?_
  refine y_next (pc' := 47) (xst_of (i := (.iload_n 1)) (len := 1) rfl rfl (x_ilo e1)) ?_
  refine z_aI (t := l0) (k := 0) (n := 8) (i := l1) rfl rfl R ok_l0 H.1 ?_
  replace H := H.2
  by_cases hc : (fA Y l0 0 (Int32.toNatClampNeg l1)) = 0
  · replace H := H.1 hc
    refine y_next (xst_of (i := (.ifCond .eq 9)) (len := 3) rfl rfl (xt_if_eq (t := 57) rfl hc)) ?_
    exact H _ _ R e0 e1 e2 ok_l0
  · replace H := H.2 hc
    refine y_next (pc' := 51) (xst_of (i := (.ifCond .eq 9)) (len := 3) rfl rfl (xf_if_eq (t := 57) rfl hc)) ?_
    refine y_next (pc' := 52) (xst_of (i := (.iload_n 2)) (len := 1) rfl rfl (x_ilo e2)) ?_
    by_cases hc : s0 = 0
    · replace H := H.1 hc
      refine y_next (pc' := 55) (xst_of (i := (.ifCond .ne 5)) (len := 3) rfl rfl (xf_if_ne (t := 57) rfl (fun z => z hc))) ?_
      refine y_next (pc' := 56) (xst_of (i := (.iconst 0)) (len := 1) rfl rfl (x_ico (v := 0) (by decide))) ?_
      exact y_ret (xst_of (i := .ireturn) (len := 1) rfl rfl (x_zret rfl H.1)) ⟨_, _, rfl, R, H.2⟩
    · replace H := H.2 hc
      refine y_next (xst_of (i := (.ifCond .ne 5)) (len := 3) rfl rfl (xt_if_ne (t := 57) rfl hc)) ?_
      exact H _ _ R e0 e1 e2 ok_l0
theorem l_86_57 {V : xV} {g : xG} {Y : xW} {l0 : xT} {l1 : Int32} {l2 : Int32} {Q : Int32 → xW → Prop} (H : L_86_2 V g Y l0 (l1 + 1) Q) : L_86_57 V g Y l0 l1 l2 Q := by
  intro h lv R e0 e1 e2 ok_l0
  refine z_in (q := 1) (n := 1) (v := 1) rfl e1 (by decide) (by decide) (fun lv1 hlv => ?_)
  have e0 := xs1_B hlv e0 rfl rfl
  have e2 := xs1_A hlv e2 rfl rfl
  have e1 := xs1_N hlv
  clear hlv
  refine y_next (pc' := 2) (xst_of (i := (.goto (-58))) (len := 3) rfl rfl rfl) ?_
  exact H _ _ R e0 e1 ok_l0
