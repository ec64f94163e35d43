theorem l_145_0 {V : xV} {g : xG} {Y : xW} {l1 : Int32} {Q : xW → Prop} (H : L_144_0 V g Y l1 (fun x2 Y1 => ((x2 = (fI Y1 (10, 0, 0) 30)) → L_143_0 V g Y1 ((200 * (fI Y1 (10, 0, 0) 5)) + l1) (fun x4 Y3 => ((x4 = 0) → L_141_0 V g Y3 4 (fun Y5 => L_145_42 V g Y5 l1 Q)) ∧ (¬ (x4 = 0) → L_145_42 V g Y3 l1 Q))) ∧ (¬ (x2 = (fI Y1 (10, 0, 0) 30)) → L_141_0 V g Y1 1 (fun Y6 => L_145_42 V g Y6 l1 Q)))) : L_145_0 V g Y l1 Q := by
  intro h lv R e0 e1
  refine y_next (pc' := 1) (xst_of (i := (.aload_n 0)) (len := 1) rfl rfl (x_aloadV (xisV_r _) e0)) ?_
  refine y_next (pc' := 2) (xst_of (i := (.iload_n 1)) (len := 1) rfl rfl (x_ilo e1)) ?_
  refine z_cI (k := 144) (i := (.invokevirtual 181)) (as := [.ref (g.2 (10, 0, 0) 0), .int l1]) (rest := []) rfl rfl (x_callv rfl rfl (rc_ob R (rc_10 R) rfl) rfl rfl) (H _ _ R rfl rfl) (fun x2 h Y1 R H => ?_)
  refine y_next (pc' := 6) (xst_of (i := (.aload_n 0)) (len := 1) rfl rfl (x_aloadV (xisV_r _) e0)) ?_
  refine z_gI (t := (10, 0, 0)) (k := 30) rfl rfl rfl R (rc_10 R) ?_
  by_cases hc : x2 = (fI Y1 (10, 0, 0) 30)
  · replace H := H.1 hc
    refine y_next (xst_of (i := (.if_icmp .eq 11)) (len := 3) rfl rfl (xt_icmp_eq (t := 20) rfl hc)) ?_
    refine y_next (pc' := 21) (xst_of (i := (.aload_n 0)) (len := 1) rfl rfl (x_aloadV (xisV_r _) e0)) ?_
    refine y_next (pc' := 24) (xst_of (i := (.sipush 200)) (len := 3) rfl rfl (x_sip (v := 200) (by decide))) ?_
    refine y_next (pc' := 25) (xst_of (i := (.aload_n 0)) (len := 1) rfl rfl (x_aloadV (xisV_r _) e0)) ?_
    refine z_gI (t := (10, 0, 0)) (k := 5) rfl rfl rfl R (rc_10 R) ?_
    refine y_next (pc' := 29) (xst_of (i := .imul) (len := 1) rfl rfl rfl) ?_
    refine y_next (pc' := 30) (xst_of (i := (.iload_n 1)) (len := 1) rfl rfl (x_ilo e1)) ?_
    refine y_next (pc' := 31) (xst_of (i := .iadd) (len := 1) rfl rfl rfl) ?_
    refine z_cI (k := 143) (i := (.invokevirtual 191)) (as := [.ref (g.2 (10, 0, 0) 0), .int ((200 * (fI Y1 (10, 0, 0) 5)) + l1)]) (rest := []) rfl rfl (x_callv rfl rfl (rc_ob R (rc_10 R) rfl) rfl rfl) (H _ _ R rfl rfl) (fun x4 h Y3 R H => ?_)
    by_cases hc : x4 = 0
    · replace H := H.1 hc
      refine y_next (pc' := 37) (xst_of (i := (.ifCond .ne 8)) (len := 3) rfl rfl (xf_if_ne (t := 42) rfl (fun z => z hc))) ?_
      refine y_next (pc' := 38) (xst_of (i := (.aload_n 0)) (len := 1) rfl rfl (x_aloadV (xisV_r _) e0)) ?_
      refine y_next (pc' := 39) (xst_of (i := (.iconst 4)) (len := 1) rfl rfl (x_ico (v := 4) (by decide))) ?_
      refine z_cN (k := 141) (i := (.invokevirtual 187)) (as := [.ref (g.2 (10, 0, 0) 0), .int 4]) (rest := []) rfl rfl (x_callv rfl rfl (rc_ob R (rc_10 R) rfl) rfl rfl) (H _ _ R rfl rfl) (fun h Y5 R H => ?_)
      exact H _ _ R e0 e1
    · replace H := H.2 hc
      refine y_next (xst_of (i := (.ifCond .ne 8)) (len := 3) rfl rfl (xt_if_ne (t := 42) rfl hc)) ?_
      exact H _ _ R e0 e1
  · replace H := H.2 hc
    refine y_next (pc' := 12) (xst_of (i := (.if_icmp .eq 11)) (len := 3) rfl rfl (xf_icmp_eq (t := 20) rfl hc)) ?_
    refine y_next (pc' := 13) (xst_of (i := (.aload_n 0)) (len := 1) rfl rfl (x_aloadV (xisV_r _) e0)) ?_
    refine y_next (pc' := 14) (xst_of (i := (.iconst 1)) (len := 1) rfl rfl (x_ico (v := 1) (by decide))) ?_
    refine z_cN (k := 141) (i := (.invokevirtual 187)) (as := [.ref (g.2 (10, 0, 0) 0), .int 1]) (rest := []) rfl rfl (x_callv rfl rfl (rc_ob R (rc_10 R) rfl) rfl rfl) (H _ _ R rfl rfl) (fun h Y6 R H => ?_)
    refine y_next (pc' := 42) (xst_of (i := (.goto 25)) (len := 3) rfl rfl rfl) ?_
    exact H _ _ R e0 e1
theorem l_145_42 {V : xV} {g : xG} {Y : xW} {l1 : Int32} {Q : xW → Prop} (H : Q Y) : L_145_42 V g Y l1 Q := by
  intro h lv R e0 e1
  exact y_ret (xst_of (i := .return_) (len := 1) rfl rfl rfl) ⟨_, rfl, R, H⟩
theorem l_146_0 {V : xV} {g : xG} {Y : xW}  {Q : xW → Prop} (H : ((1 : Int32) = 0 ∨ (1 : Int32) = 1) ∧ ∀ Y1, Y1 = uI Y (10, 0, 0) 27 1 → vp_in (fI Y1 (10, 0, 0) 5) 24 ∧ ((((fI Y1 (10, 0, 0) 28) + 1) < (fA Y1 (10, 0, 0) 8 (Int32.toNatClampNeg (fI Y1 (10, 0, 0) 5)))) → L_144_0 V g Y1 ((fI Y1 (10, 0, 0) 28) + 1) (fun x3 Y2 => ((x3 < 0) → L_146_54 V g Y2  Q) ∧ (¬ (x3 < 0) → L_145_0 V g Y2 ((fI Y2 (10, 0, 0) 28) + 1) (fun Y4 => L_146_54 V g Y4  Q)))) ∧ (¬ (((fI Y1 (10, 0, 0) 28) + 1) < (fA Y1 (10, 0, 0) 8 (Int32.toNatClampNeg (fI Y1 (10, 0, 0) 5)))) → L_141_0 V g Y1 1 (fun Y5 => L_146_54 V g Y5  Q))) : L_146_0 V g Y  Q := by
  intro h lv R e0
  refine y_next (pc' := 1) (xst_of (i := (.aload_n 0)) (len := 1) rfl rfl (x_aloadV (xisV_r _) e0)) ?_
  refine y_next (pc' := 2) (xst_of (i := (.iconst 1)) (len := 1) rfl rfl (x_ico (v := 1) (by decide))) ?_
  have hz := H.1
  replace H := H.2
  refine z_pI (t := (10, 0, 0)) (k := 27) rfl rfl rfl (xfit_z hz) rfl R (rc_10 R) (fun h Y1 hY R => ?_)
  replace H := H Y1 hY
  clear hY
  refine y_next (pc' := 6) (xst_of (i := (.aload_n 0)) (len := 1) rfl rfl (x_aloadV (xisV_r _) e0)) ?_
  refine z_gI (t := (10, 0, 0)) (k := 28) rfl rfl rfl R (rc_10 R) ?_
  refine y_next (pc' := 10) (xst_of (i := (.iconst 1)) (len := 1) rfl rfl (x_ico (v := 1) (by decide))) ?_
  refine y_next (pc' := 11) (xst_of (i := .iadd) (len := 1) rfl rfl rfl) ?_
  refine y_next (pc' := 12) (xst_of (i := (.aload_n 0)) (len := 1) rfl rfl (x_aloadV (xisV_r _) e0)) ?_
  refine z_gA (t := (10, 0, 0)) (k := 8) rfl rfl rfl R (rc_10 R) ?_
  refine y_next (pc' := 16) (xst_of (i := (.aload_n 0)) (len := 1) rfl rfl (x_aloadV (xisV_r _) e0)) ?_
  refine z_gI (t := (10, 0, 0)) (k := 5) rfl rfl rfl R (rc_10 R) ?_
  refine z_aI (t := (10, 0, 0)) (k := 8) (n := 24) (i := (fI Y1 (10, 0, 0) 5)) rfl rfl R (rc_10 R) H.1 ?_
  replace H := H.2
  by_cases hc : ((fI Y1 (10, 0, 0) 28) + 1) < (fA Y1 (10, 0, 0) 8 (Int32.toNatClampNeg (fI Y1 (10, 0, 0) 5)))
  · replace H := H.1 hc
    refine y_next (xst_of (i := (.if_icmp .lt 11)) (len := 3) rfl rfl (xt_icmp_lt (t := 31) rfl hc)) ?_
    refine y_next (pc' := 32) (xst_of (i := (.aload_n 0)) (len := 1) rfl rfl (x_aloadV (xisV_r _) e0)) ?_
    refine y_next (pc' := 33) (xst_of (i := (.aload_n 0)) (len := 1) rfl rfl (x_aloadV (xisV_r _) e0)) ?_
    refine z_gI (t := (10, 0, 0)) (k := 28) rfl rfl rfl R (rc_10 R) ?_
    refine y_next (pc' := 37) (xst_of (i := (.iconst 1)) (len := 1) rfl rfl (x_ico (v := 1) (by decide))) ?_
    refine y_next (pc' := 38) (xst_of (i := .iadd) (len := 1) rfl rfl rfl) ?_
    refine z_cI (k := 144) (i := (.invokevirtual 181)) (as := [.ref (g.2 (10, 0, 0) 0), .int ((fI Y1 (10, 0, 0) 28) + 1)]) (rest := []) rfl rfl (x_callv rfl rfl (rc_ob R (rc_10 R) rfl) rfl rfl) (H _ _ R rfl rfl) (fun x3 h Y2 R H => ?_)
    by_cases hc : x3 < 0
    · replace H := H.1 hc
      refine y_next (xst_of (i := (.ifCond .lt 13)) (len := 3) rfl rfl (xt_if_lt (t := 54) rfl hc)) ?_
      exact H _ _ R e0
    · replace H := H.2 hc
      refine y_next (pc' := 44) (xst_of (i := (.ifCond .lt 13)) (len := 3) rfl rfl (xf_if_lt (t := 54) rfl hc)) ?_
      refine y_next (pc' := 45) (xst_of (i := (.aload_n 0)) (len := 1) rfl rfl (x_aloadV (xisV_r _) e0)) ?_
      refine y_next (pc' := 46) (xst_of (i := (.aload_n 0)) (len := 1) rfl rfl (x_aloadV (xisV_r _) e0)) ?_
      refine z_gI (t := (10, 0, 0)) (k := 28) rfl rfl rfl R (rc_10 R) ?_
      refine y_next (pc' := 50) (xst_of (i := (.iconst 1)) (len := 1) rfl rfl (x_ico (v := 1) (by decide))) ?_
      refine y_next (pc' := 51) (xst_of (i := .iadd) (len := 1) rfl rfl rfl) ?_
      refine z_cN (k := 145) (i := (.invokevirtual 201)) (as := [.ref (g.2 (10, 0, 0) 0), .int ((fI Y2 (10, 0, 0) 28) + 1)]) (rest := []) rfl rfl (x_callv rfl rfl (rc_ob R (rc_10 R) rfl) rfl rfl) (H _ _ R rfl rfl) (fun h Y4 R H => ?_)
      exact H _ _ R e0
  · replace H := H.2 hc
    refine y_next (pc' := 23) (xst_of (i := (.if_icmp .lt 11)) (len := 3) rfl rfl (xf_icmp_lt (t := 31) rfl hc)) ?_
    refine y_next (pc' := 24) (xst_of (i := (.aload_n 0)) (len := 1) rfl rfl (x_aloadV (xisV_r _) e0)) ?_
    refine y_next (pc' := 25) (xst_of (i := (.iconst 1)) (len := 1) rfl rfl (x_ico (v := 1) (by decide))) ?_
    refine z_cN (k := 141) (i := (.invokevirtual 187)) (as := [.ref (g.2 (10, 0, 0) 0), .int 1]) (rest := []) rfl rfl (x_callv rfl rfl (rc_ob R (rc_10 R) rfl) rfl rfl) (H _ _ R rfl rfl) (fun h Y5 R H => ?_)
    refine y_next (pc' := 54) (xst_of (i := (.goto 26)) (len := 3) rfl rfl rfl) ?_
    exact H _ _ R e0
theorem l_146_54 {V : xV} {g : xG} {Y : xW}  {Q : xW → Prop} (H : Q Y) : L_146_54 V g Y  Q := by
  intro h lv R e0
  exact y_ret (xst_of (i := .return_) (len := 1) rfl rfl rfl) ⟨_, rfl, R, H⟩
theorem l_147_0 {V : xV} {g : xG} {Y : xW} {l1 : Int32} {l2 : Int32} {l3 : Int64} {l5 : Int64} {Q : xW → Prop} (H : ((l3 < (-2147483648)) → L_147_21 V g Y l1 l2 l3 l5 Q) ∧ (¬ (l3 < (-2147483648)) → ((2147483647 < l5) → L_147_21 V g Y l1 l2 l3 l5 Q) ∧ (¬ (2147483647 < l5) → L_147_22 V g Y l1 l2 l3 l5 1 Q))) : L_147_0 V g Y l1 l2 l3 l5 Q := by
  intro h lv R e0 e1 e2 e3 e5
  refine y_next (pc' := 1) (xst_of (i := (.lload_n 3)) (len := 1) rfl rfl (x_llo e3)) ?_
  refine y_next (pc' := 4) (xst_of (i := (.ldc2_w 206)) (len := 3) rfl rfl rfl) ?_
  refine y_next (pc' := 5) (xst_of (i := .lcmp) (len := 1) rfl rfl rfl) ?_
  by_cases hc : l3 < (-2147483648)
  · replace H := H.1 hc
    refine y_next (xst_of (i := (.ifCond .lt 16)) (len := 3) rfl rfl (xt_if_lt (t := 21) rfl ((lg_cmp_lt l3 (-2147483648)).mpr hc))) ?_
    exact H _ _ R e0 e1 e2 e3 e5
  · replace H := H.2 hc
    refine y_next (pc' := 8) (xst_of (i := (.ifCond .lt 16)) (len := 3) rfl rfl (xf_if_lt (t := 21) rfl (fun z => hc ((lg_cmp_lt l3 (-2147483648)).mp z)))) ?_
    refine y_next (pc' := 10) (xst_of (i := (.lload 5)) (len := 2) rfl rfl (x_llo e5)) ?_
    refine y_next (pc' := 13) (xst_of (i := (.ldc2_w 208)) (len := 3) rfl rfl rfl) ?_
    refine y_next (pc' := 14) (xst_of (i := .lcmp) (len := 1) rfl rfl rfl) ?_
    by_cases hc : 2147483647 < l5
    · replace H := H.1 hc
      refine y_next (xst_of (i := (.ifCond .gt 7)) (len := 3) rfl rfl (xt_if_gt (t := 21) rfl ((lg_cmp_gt l5 2147483647).mpr hc))) ?_
      exact H _ _ R e0 e1 e2 e3 e5
    · replace H := H.2 hc
      refine y_next (pc' := 17) (xst_of (i := (.ifCond .gt 7)) (len := 3) rfl rfl (xf_if_gt (t := 21) rfl (fun z => hc ((lg_cmp_gt l5 2147483647).mp z)))) ?_
      refine y_next (pc' := 18) (xst_of (i := (.iconst 1)) (len := 1) rfl rfl (x_ico (v := 1) (by decide))) ?_
      refine y_next (pc' := 22) (xst_of (i := (.goto 4)) (len := 3) rfl rfl rfl) ?_
      exact H _ _ R e0 e1 e2 e3 e5
theorem l_147_21 {V : xV} {g : xG} {Y : xW} {l1 : Int32} {l2 : Int32} {l3 : Int64} {l5 : Int64} {Q : xW → Prop} (H : L_147_22 V g Y l1 l2 l3 l5 0 Q) : L_147_21 V g Y l1 l2 l3 l5 Q := by
  intro h lv R e0 e1 e2 e3 e5
  refine y_next (pc' := 22) (xst_of (i := (.iconst 0)) (len := 1) rfl rfl (x_ico (v := 0) (by decide))) ?_
  exact H _ _ R e0 e1 e2 e3 e5
theorem l_147_22 {V : xV} {g : xG} {Y : xW} {l1 : Int32} {l2 : Int32} {l3 : Int64} {l5 : Int64} {s0 : Int32} {Q : xW → Prop} (H : vp_in l1 8 ∧ ∀ Y1, Y1 = uA Y (10, 0, 0) 24 (Int32.toNatClampNeg l1) l2 → ((s0 = 0) → L_147_48 V g Y1 l1 l2 l3 l5 s0 l1 (-2147483648) Q) ∧ (¬ (s0 = 0) → L_147_48 V g Y1 l1 l2 l3 l5 s0 l1 (Int64.toInt32 l3) Q)) : L_147_22 V g Y l1 l2 l3 l5 s0 Q := by
  intro h lv R e0 e1 e2 e3 e5
  refine z_is (i := (.istore 7)) (len := 2) (pc' := 24) (q := 7) rfl rfl rfl (by decide) (fun lv1 hlv => ?_)
  have e0 := xs1_A hlv e0 rfl rfl
  have e1 := xs1_A hlv e1 rfl rfl
  have e2 := xs1_A hlv e2 rfl rfl
  have e3 := xs1_A hlv e3 rfl rfl
  have e5 := xs1_A hlv e5 rfl rfl
  have e7 := xs1_N hlv
  clear hlv
  refine y_next (pc' := 25) (xst_of (i := (.aload_n 0)) (len := 1) rfl rfl (x_aloadV (xisV_r _) e0)) ?_
  refine z_gA (t := (10, 0, 0)) (k := 24) rfl rfl rfl R (rc_10 R) ?_
  refine y_next (pc' := 29) (xst_of (i := (.iload_n 1)) (len := 1) rfl rfl (x_ilo e1)) ?_
  refine y_next (pc' := 30) (xst_of (i := (.iload_n 2)) (len := 1) rfl rfl (x_ilo e2)) ?_
  refine z_sI (t := (10, 0, 0)) (k := 24) (n := 8) (i := l1) rfl rfl R (rc_10 R) H.1 (fun h Y1 hY R => ?_)
  replace H := H.2 Y1 hY
  clear hY
  refine y_next (pc' := 32) (xst_of (i := (.aload_n 0)) (len := 1) rfl rfl (x_aloadV (xisV_r _) e0)) ?_
  refine z_gA (t := (10, 0, 0)) (k := 25) rfl rfl rfl R (rc_10 R) ?_
  refine y_next (pc' := 36) (xst_of (i := (.iload_n 1)) (len := 1) rfl rfl (x_ilo e1)) ?_
  refine y_next (pc' := 38) (xst_of (i := (.iload 7)) (len := 2) rfl rfl (x_ilo e7)) ?_
  by_cases hc : s0 = 0
  · replace H := H.1 hc
    refine y_next (xst_of (i := (.ifCond .eq 8)) (len := 3) rfl rfl (xt_if_eq (t := 46) rfl hc)) ?_
    refine y_next (pc' := 48) (xst_of (i := (.ldc 210)) (len := 2) rfl rfl rfl) ?_
    exact H _ _ R e0 e1 e2 e3 e5 e7
  · replace H := H.2 hc
    refine y_next (pc' := 41) (xst_of (i := (.ifCond .eq 8)) (len := 3) rfl rfl (xf_if_eq (t := 46) rfl hc)) ?_
    refine y_next (pc' := 42) (xst_of (i := (.lload_n 3)) (len := 1) rfl rfl (x_llo e3)) ?_
    refine y_next (pc' := 43) (xst_of (i := .l2i) (len := 1) rfl rfl rfl) ?_
    refine y_next (pc' := 48) (xst_of (i := (.goto 5)) (len := 3) rfl rfl rfl) ?_
    exact H _ _ R e0 e1 e2 e3 e5 e7
theorem l_147_48 {V : xV} {g : xG} {Y : xW} {l1 : Int32} {l2 : Int32} {l3 : Int64} {l5 : Int64} {l7 : Int32} {s1 : Int32} {s2 : Int32} {Q : xW → Prop} (H : vp_in s1 8 ∧ ∀ Y1, Y1 = uA Y (10, 0, 0) 25 (Int32.toNatClampNeg s1) s2 → ((l7 = 0) → L_147_67 V g Y1 l1 l2 l3 l5 l7 l1 2147483647 Q) ∧ (¬ (l7 = 0) → L_147_67 V g Y1 l1 l2 l3 l5 l7 l1 (Int64.toInt32 l5) Q)) : L_147_48 V g Y l1 l2 l3 l5 l7 s1 s2 Q := by
  intro h lv R e0 e1 e2 e3 e5 e7
  refine z_sI (t := (10, 0, 0)) (k := 25) (n := 8) (i := s1) rfl rfl R (rc_10 R) H.1 (fun h Y1 hY R => ?_)
  replace H := H.2 Y1 hY
  clear hY
  refine y_next (pc' := 50) (xst_of (i := (.aload_n 0)) (len := 1) rfl rfl (x_aloadV (xisV_r _) e0)) ?_
  refine z_gA (t := (10, 0, 0)) (k := 26) rfl rfl rfl R (rc_10 R) ?_
  refine y_next (pc' := 54) (xst_of (i := (.iload_n 1)) (len := 1) rfl rfl (x_ilo e1)) ?_
  refine y_next (pc' := 56) (xst_of (i := (.iload 7)) (len := 2) rfl rfl (x_ilo e7)) ?_
  by_cases hc : l7 = 0
  · replace H := H.1 hc
    refine y_next (xst_of (i := (.ifCond .eq 9)) (len := 3) rfl rfl (xt_if_eq (t := 65) rfl hc)) ?_
    refine y_next (pc' := 67) (xst_of (i := (.ldc 211)) (len := 2) rfl rfl rfl) ?_
    exact H _ _ R e0 e1 e2 e3 e5 e7
  · replace H := H.2 hc
    refine y_next (pc' := 59) (xst_of (i := (.ifCond .eq 9)) (len := 3) rfl rfl (xf_if_eq (t := 65) rfl hc)) ?_
    refine y_next (pc' := 61) (xst_of (i := (.lload 5)) (len := 2) rfl rfl (x_llo e5)) ?_
    refine y_next (pc' := 62) (xst_of (i := .l2i) (len := 1) rfl rfl rfl) ?_
    refine y_next (pc' := 67) (xst_of (i := (.goto 5)) (len := 3) rfl rfl rfl) ?_
    exact H _ _ R e0 e1 e2 e3 e5 e7
theorem l_147_67 {V : xV} {g : xG} {Y : xW} {l1 : Int32} {l2 : Int32} {l3 : Int64} {l5 : Int64} {l7 : Int32} {s1 : Int32} {s2 : Int32} {Q : xW → Prop} (H : vp_in s1 8 ∧ ∀ Y1, Y1 = uA Y (10, 0, 0) 26 (Int32.toNatClampNeg s1) s2 → Q Y1) : L_147_67 V g Y l1 l2 l3 l5 l7 s1 s2 Q := by
  intro h lv R e0 e1 e2 e3 e5 e7
  refine z_sI (t := (10, 0, 0)) (k := 26) (n := 8) (i := s1) rfl rfl R (rc_10 R) H.1 (fun h Y1 hY R => ?_)
  replace H := H.2 Y1 hY
  clear hY
  exact y_ret (xst_of (i := .return_) (len := 1) rfl rfl rfl) ⟨_, rfl, R, H⟩
theorem l_148_0 {V : xV} {g : xG} {Y : xW} {l1 : Int32} {l2 : Int64} {l4 : Int64} {Q : xW → Prop} (H : ((l2 < (-1000000)) → L_148_17 V g Y l1 l2 l4 Q) ∧ (¬ (l2 < (-1000000)) → ((l4 ≤ 1000000) → L_147_0 V g Y l1 2 l2 l4 (fun Y1 => L_148_35 V g Y1 l1 l2 l4 Q)) ∧ (¬ (l4 ≤ 1000000) → L_148_17 V g Y l1 l2 l4 Q))) : L_148_0 V g Y l1 l2 l4 Q := by
  intro h lv R e0 e1 e2 e4
  refine y_next (pc' := 1) (xst_of (i := (.lload_n 2)) (len := 1) rfl rfl (x_llo e2)) ?_
  refine y_next (pc' := 4) (xst_of (i := (.ldc2_w 212)) (len := 3) rfl rfl rfl) ?_
  refine y_next (pc' := 5) (xst_of (i := .lcmp) (len := 1) rfl rfl rfl) ?_
  by_cases hc : l2 < (-1000000)
  · replace H := H.1 hc
    refine y_next (xst_of (i := (.ifCond .lt 12)) (len := 3) rfl rfl (xt_if_lt (t := 17) rfl ((lg_cmp_lt l2 (-1000000)).mpr hc))) ?_
    exact H _ _ R e0 e1 e2 e4
  · replace H := H.2 hc
    refine y_next (pc' := 8) (xst_of (i := (.ifCond .lt 12)) (len := 3) rfl rfl (xf_if_lt (t := 17) rfl (fun z => hc ((lg_cmp_lt l2 (-1000000)).mp z)))) ?_
    refine y_next (pc' := 10) (xst_of (i := (.lload 4)) (len := 2) rfl rfl (x_llo e4)) ?_
    refine y_next (pc' := 13) (xst_of (i := (.ldc2_w 214)) (len := 3) rfl rfl rfl) ?_
    refine y_next (pc' := 14) (xst_of (i := .lcmp) (len := 1) rfl rfl rfl) ?_
    by_cases hc : l4 ≤ 1000000
    · replace H := H.1 hc
      refine y_next (xst_of (i := (.ifCond .le 12)) (len := 3) rfl rfl (xt_if_le (t := 26) rfl ((lg_cmp_le l4 1000000).mpr hc))) ?_
      refine y_next (pc' := 27) (xst_of (i := (.aload_n 0)) (len := 1) rfl rfl (x_aloadV (xisV_r _) e0)) ?_
      refine y_next (pc' := 28) (xst_of (i := (.iload_n 1)) (len := 1) rfl rfl (x_ilo e1)) ?_
      refine y_next (pc' := 29) (xst_of (i := (.iconst 2)) (len := 1) rfl rfl (x_ico (v := 2) (by decide))) ?_
      refine y_next (pc' := 30) (xst_of (i := (.lload_n 2)) (len := 1) rfl rfl (x_llo e2)) ?_
      refine y_next (pc' := 32) (xst_of (i := (.lload 4)) (len := 2) rfl rfl (x_llo e4)) ?_
      refine z_cN (k := 147) (i := (.invokevirtual 216)) (as := [.ref (g.2 (10, 0, 0) 0), .int l1, .int 2, .long l2, .long l4]) (rest := []) rfl rfl (x_callv rfl rfl (rc_ob R (rc_10 R) rfl) rfl rfl) (H _ _ R rfl rfl rfl rfl rfl) (fun h Y1 R H => ?_)
      exact H _ _ R e0 e1 e2 e4
    · replace H := H.2 hc
      refine y_next (pc' := 17) (xst_of (i := (.ifCond .le 12)) (len := 3) rfl rfl (xf_if_le (t := 26) rfl (fun z => hc ((lg_cmp_le l4 1000000).mp z)))) ?_
      exact H _ _ R e0 e1 e2 e4
theorem l_148_17 {V : xV} {g : xG} {Y : xW} {l1 : Int32} {l2 : Int64} {l4 : Int64} {Q : xW → Prop} (H : L_141_0 V g Y 6 (fun Y1 => L_148_35 V g Y1 l1 l2 l4 Q)) : L_148_17 V g Y l1 l2 l4 Q := by
  intro h lv R e0 e1 e2 e4
  refine y_next (pc' := 18) (xst_of (i := (.aload_n 0)) (len := 1) rfl rfl (x_aloadV (xisV_r _) e0)) ?_
  refine y_next (pc' := 20) (xst_of (i := (.bipush 6)) (len := 2) rfl rfl (x_bip (v := 6) (by decide))) ?_
  refine z_cN (k := 141) (i := (.invokevirtual 187)) (as := [.ref (g.2 (10, 0, 0) 0), .int 6]) (rest := []) rfl rfl (x_callv rfl rfl (rc_ob R (rc_10 R) rfl) rfl rfl) (H _ _ R rfl rfl) (fun h Y1 R H => ?_)
  refine y_next (pc' := 35) (xst_of (i := (.goto 12)) (len := 3) rfl rfl rfl) ?_
  exact H _ _ R e0 e1 e2 e4
theorem l_148_35 {V : xV} {g : xG} {Y : xW} {l1 : Int32} {l2 : Int64} {l4 : Int64} {Q : xW → Prop} (H : Q Y) : L_148_35 V g Y l1 l2 l4 Q := by
  intro h lv R e0 e1 e2 e4
  exact y_ret (xst_of (i := .return_) (len := 1) rfl rfl rfl) ⟨_, rfl, R, H⟩
theorem l_149_0 {V : xV} {g : xG} {Y : xW} {l1 : Int32} {l2 : Int32} {l3 : Int64} {l5 : Int64} {Q : xW → Prop} (H : vp_in l2 8 ∧ (((fA Y (10, 0, 0) 24 (Int32.toNatClampNeg l2)) = 2) → vp_in l2 8 ∧ vp_in l2 8 ∧ L_148_0 V g Y l1 ((Int32.toInt64 (fA Y (10, 0, 0) 25 (Int32.toNatClampNeg l2))) + l3) ((Int32.toInt64 (fA Y (10, 0, 0) 26 (Int32.toNatClampNeg l2))) + l5) (fun Y1 => L_149_62 V g Y1 l1 l2 l3 l5 Q)) ∧ (¬ ((fA Y (10, 0, 0) 24 (Int32.toNatClampNeg l2)) = 2) → vp_in l2 8 ∧ vp_in l2 8 ∧ L_147_0 V g Y l1 1 ((Int32.toInt64 (fA Y (10, 0, 0) 25 (Int32.toNatClampNeg l2))) + l3) ((Int32.toInt64 (fA Y (10, 0, 0) 26 (Int32.toNatClampNeg l2))) + l5) (fun Y2 => L_149_62 V g Y2 l1 l2 l3 l5 Q))) : L_149_0 V g Y l1 l2 l3 l5 Q := by
  intro h lv R e0 e1 e2 e3 e5
  refine y_next (pc' := 1) (xst_of (i := (.aload_n 0)) (len := 1) rfl rfl (x_aloadV (xisV_r _) e0)) ?_
  refine z_gA (t := (10, 0, 0)) (k := 24) rfl rfl rfl R (rc_10 R) ?_
  refine y_next (pc' := 5) (xst_of (i := (.iload_n 2)) (len := 1) rfl rfl (x_ilo e2)) ?_
  refine z_aI (t := (10, 0, 0)) (k := 24) (n := 8) (i := l2) rfl rfl R (rc_10 R) H.1 ?_
  replace H := H.2
  refine y_next (pc' := 7) (xst_of (i := (.iconst 2)) (len := 1) rfl rfl (x_ico (v := 2) (by decide))) ?_
  by_cases hc : (fA Y (10, 0, 0) 24 (Int32.toNatClampNeg l2)) = 2
  · replace H := H.1 hc
    refine y_next (pc' := 10) (xst_of (i := (.if_icmp .ne 30)) (len := 3) rfl rfl (xf_icmp_ne (t := 37) rfl (fun z => z hc))) ?_
    refine y_next (pc' := 11) (xst_of (i := (.aload_n 0)) (len := 1) rfl rfl (x_aloadV (xisV_r _) e0)) ?_
    refine y_next (pc' := 12) (xst_of (i := (.iload_n 1)) (len := 1) rfl rfl (x_ilo e1)) ?_
    refine y_next (pc' := 13) (xst_of (i := (.aload_n 0)) (len := 1) rfl rfl (x_aloadV (xisV_r _) e0)) ?_
    refine z_gA (t := (10, 0, 0)) (k := 25) rfl rfl rfl R (rc_10 R) ?_
    refine y_next (pc' := 17) (xst_of (i := (.iload_n 2)) (len := 1) rfl rfl (x_ilo e2)) ?_
    refine z_aI (t := (10, 0, 0)) (k := 25) (n := 8) (i := l2) rfl rfl R (rc_10 R) H.1 ?_
    replace H := H.2
    refine y_next (pc' := 19) (xst_of (i := .i2l) (len := 1) rfl rfl rfl) ?_
    refine y_next (pc' := 20) (xst_of (i := (.lload_n 3)) (len := 1) rfl rfl (x_llo e3)) ?_
    refine y_next (pc' := 21) (xst_of (i := .ladd) (len := 1) rfl rfl rfl) ?_
    refine y_next (pc' := 22) (xst_of (i := (.aload_n 0)) (len := 1) rfl rfl (x_aloadV (xisV_r _) e0)) ?_
    refine z_gA (t := (10, 0, 0)) (k := 26) rfl rfl rfl R (rc_10 R) ?_
    refine y_next (pc' := 26) (xst_of (i := (.iload_n 2)) (len := 1) rfl rfl (x_ilo e2)) ?_
    refine z_aI (t := (10, 0, 0)) (k := 26) (n := 8) (i := l2) rfl rfl R (rc_10 R) H.1 ?_
    replace H := H.2
    refine y_next (pc' := 28) (xst_of (i := .i2l) (len := 1) rfl rfl rfl) ?_
    refine y_next (pc' := 30) (xst_of (i := (.lload 5)) (len := 2) rfl rfl (x_llo e5)) ?_
    refine y_next (pc' := 31) (xst_of (i := .ladd) (len := 1) rfl rfl rfl) ?_
    refine z_cN (k := 148) (i := (.invokevirtual 220)) (as := [.ref (g.2 (10, 0, 0) 0), .int l1, .long ((Int32.toInt64 (fA Y (10, 0, 0) 25 (Int32.toNatClampNeg l2))) + l3), .long ((Int32.toInt64 (fA Y (10, 0, 0) 26 (Int32.toNatClampNeg l2))) + l5)]) (rest := []) rfl rfl (x_callv rfl rfl (rc_ob R (rc_10 R) rfl) rfl rfl) (H _ _ R rfl rfl rfl rfl) (fun h Y1 R H => ?_)
    refine y_next (pc' := 62) (xst_of (i := (.goto 28)) (len := 3) rfl rfl rfl) ?_
    exact H _ _ R e0 e1 e2 e3 e5
  · replace H := H.2 hc
    refine y_next (xst_of (i := (.if_icmp .ne 30)) (len := 3) rfl rfl (xt_icmp_ne (t := 37) rfl hc)) ?_
    refine y_next (pc' := 38) (xst_of (i := (.aload_n 0)) (len := 1) rfl rfl (x_aloadV (xisV_r _) e0)) ?_
    refine y_next (pc' := 39) (xst_of (i := (.iload_n 1)) (len := 1) rfl rfl (x_ilo e1)) ?_
    refine y_next (pc' := 40) (xst_of (i := (.iconst 1)) (len := 1) rfl rfl (x_ico (v := 1) (by decide))) ?_
    refine y_next (pc' := 41) (xst_of (i := (.aload_n 0)) (len := 1) rfl rfl (x_aloadV (xisV_r _) e0)) ?_
    refine z_gA (t := (10, 0, 0)) (k := 25) rfl rfl rfl R (rc_10 R) ?_
    refine y_next (pc' := 45) (xst_of (i := (.iload_n 2)) (len := 1) rfl rfl (x_ilo e2)) ?_
    refine z_aI (t := (10, 0, 0)) (k := 25) (n := 8) (i := l2) rfl rfl R (rc_10 R) H.1 ?_
    replace H := H.2
    refine y_next (pc' := 47) (xst_of (i := .i2l) (len := 1) rfl rfl rfl) ?_
    refine y_next (pc' := 48) (xst_of (i := (.lload_n 3)) (len := 1) rfl rfl (x_llo e3)) ?_
    refine y_next (pc' := 49) (xst_of (i := .ladd) (len := 1) rfl rfl rfl) ?_
    refine y_next (pc' := 50) (xst_of (i := (.aload_n 0)) (len := 1) rfl rfl (x_aloadV (xisV_r _) e0)) ?_
    refine z_gA (t := (10, 0, 0)) (k := 26) rfl rfl rfl R (rc_10 R) ?_
    refine y_next (pc' := 54) (xst_of (i := (.iload_n 2)) (len := 1) rfl rfl (x_ilo e2)) ?_
    refine z_aI (t := (10, 0, 0)) (k := 26) (n := 8) (i := l2) rfl rfl R (rc_10 R) H.1 ?_
    replace H := H.2
    refine y_next (pc' := 56) (xst_of (i := .i2l) (len := 1) rfl rfl rfl) ?_
    refine y_next (pc' := 58) (xst_of (i := (.lload 5)) (len := 2) rfl rfl (x_llo e5)) ?_
    refine y_next (pc' := 59) (xst_of (i := .ladd) (len := 1) rfl rfl rfl) ?_
    refine z_cN (k := 147) (i := (.invokevirtual 216)) (as := [.ref (g.2 (10, 0, 0) 0), .int l1, .int 1, .long ((Int32.toInt64 (fA Y (10, 0, 0) 25 (Int32.toNatClampNeg l2))) + l3), .long ((Int32.toInt64 (fA Y (10, 0, 0) 26 (Int32.toNatClampNeg l2))) + l5)]) (rest := []) rfl rfl (x_callv rfl rfl (rc_ob R (rc_10 R) rfl) rfl rfl) (H _ _ R rfl rfl rfl rfl rfl) (fun h Y2 R H => ?_)
    exact H _ _ R e0 e1 e2 e3 e5
theorem l_149_62 {V : xV} {g : xG} {Y : xW} {l1 : Int32} {l2 : Int32} {l3 : Int64} {l5 : Int64} {Q : xW → Prop} (H : Q Y) : L_149_62 V g Y l1 l2 l3 l5 Q := by
  intro h lv R e0 e1 e2 e3 e5
  exact y_ret (xst_of (i := .return_) (len := 1) rfl rfl rfl) ⟨_, rfl, R, H⟩
theorem l_150_0 {V : xV} {g : xG} {Y : xW} {l0 : Int64} {l2 : Int64} {l4 : Int64} {l6 : Int64} {Q : Int64 → xW → Prop} (H : L_188_0 V g Y l0 l2 (fun x2 Y1 => L_188_0 V g Y1 l4 l6 (fun x4 Y3 => L_188_0 V g Y3 x2 x4 (fun x6 Y5 => Q x6 Y5)))) : L_150_0 V g Y l0 l2 l4 l6 Q := by
  intro h lv R e0 e2 e4 e6
  refine y_next (pc' := 1) (xst_of (i := (.lload_n 0)) (len := 1) rfl rfl (x_llo e0)) ?_
  refine y_next (pc' := 2) (xst_of (i := (.lload_n 2)) (len := 1) rfl rfl (x_llo e2)) ?_
  refine z_cL (k := 188) (i := (.invokestatic 224)) (as := [.long l0, .long l2]) (rest := []) rfl rfl rfl (H _ _ R rfl rfl) (fun x2 h Y1 R H => ?_)
  refine y_next (pc' := 7) (xst_of (i := (.lload 4)) (len := 2) rfl rfl (x_llo e4)) ?_
  refine y_next (pc' := 9) (xst_of (i := (.lload 6)) (len := 2) rfl rfl (x_llo e6)) ?_
  refine z_cL (k := 188) (i := (.invokestatic 224)) (as := [.long l4, .long l6]) (rest := [.long x2]) rfl rfl rfl (H _ _ R rfl rfl) (fun x4 h Y3 R H => ?_)
  refine z_cL (k := 188) (i := (.invokestatic 224)) (as := [.long x2, .long x4]) (rest := []) rfl rfl rfl (H _ _ R rfl rfl) (fun x6 h Y5 R H => ?_)
  exact y_ret (xst_of (i := .lreturn) (len := 1) rfl rfl rfl) ⟨_, _, rfl, R, H⟩
theorem l_151_0 {V : xV} {g : xG} {Y : xW} {l0 : Int64} {l2 : Int64} {l4 : Int64} {l6 : Int64} {Q : Int64 → xW → Prop} (H : L_186_0 V g Y l0 l2 (fun x2 Y1 => L_186_0 V g Y1 l4 l6 (fun x4 Y3 => L_186_0 V g Y3 x2 x4 (fun x6 Y5 => Q x6 Y5)))) : L_151_0 V g Y l0 l2 l4 l6 Q := by
  intro h lv R e0 e2 e4 e6
  refine y_next (pc' := 1) (xst_of (i := (.lload_n 0)) (len := 1) rfl rfl (x_llo e0)) ?_
  refine y_next (pc' := 2) (xst_of (i := (.lload_n 2)) (len := 1) rfl rfl (x_llo e2)) ?_
  refine z_cL (k := 186) (i := (.invokestatic 230)) (as := [.long l0, .long l2]) (rest := []) rfl rfl rfl (H _ _ R rfl rfl) (fun x2 h Y1 R H => ?_)
  refine y_next (pc' := 7) (xst_of (i := (.lload 4)) (len := 2) rfl rfl (x_llo e4)) ?_
  refine y_next (pc' := 9) (xst_of (i := (.lload 6)) (len := 2) rfl rfl (x_llo e6)) ?_
  refine z_cL (k := 186) (i := (.invokestatic 230)) (as := [.long l4, .long l6]) (rest := [.long x2]) rfl rfl rfl (H _ _ R rfl rfl) (fun x4 h Y3 R H => ?_)
  refine z_cL (k := 186) (i := (.invokestatic 230)) (as := [.long x2, .long x4]) (rest := []) rfl rfl rfl (H _ _ R rfl rfl) (fun x6 h Y5 R H => ?_)
  exact y_ret (xst_of (i := .lreturn) (len := 1) rfl rfl rfl) ⟨_, _, rfl, R, H⟩
set_option maxRecDepth 20000 in
theorem l_152_0 {V : xV} {g : xG} {Y : xW} {l1 : Int32} {l2 : Int32} {l3 : Int32} {l4 : Int32} {Q : xW → Prop} (H : vp_in l3 8 ∧ vp_in l3 8 ∧ vp_in l4 8 ∧ vp_in l4 8 ∧ ((l1 = 4) → vp_in l3 8 ∧ (((fA Y (10, 0, 0) 24 (Int32.toNatClampNeg l3)) = 1) → vp_in l4 8 ∧ (((fA Y (10, 0, 0) 24 (Int32.toNatClampNeg l4)) = 0) → L_152_63 V g Y l1 l2 l3 l4 (Int32.toInt64 (fA Y (10, 0, 0) 25 (Int32.toNatClampNeg l3))) (Int32.toInt64 (fA Y (10, 0, 0) 26 (Int32.toNatClampNeg l3))) (Int32.toInt64 (fA Y (10, 0, 0) 25 (Int32.toNatClampNeg l4))) (Int32.toInt64 (fA Y (10, 0, 0) 26 (Int32.toNatClampNeg l4))) Q) ∧ (¬ ((fA Y (10, 0, 0) 24 (Int32.toNatClampNeg l4)) = 0) → L_152_84 V g Y l1 l2 l3 l4 (Int32.toInt64 (fA Y (10, 0, 0) 25 (Int32.toNatClampNeg l3))) (Int32.toInt64 (fA Y (10, 0, 0) 26 (Int32.toNatClampNeg l3))) (Int32.toInt64 (fA Y (10, 0, 0) 25 (Int32.toNatClampNeg l4))) (Int32.toInt64 (fA Y (10, 0, 0) 26 (Int32.toNatClampNeg l4))) Q)) ∧ (¬ ((fA Y (10, 0, 0) 24 (Int32.toNatClampNeg l3)) = 1) → L_152_63 V g Y l1 l2 l3 l4 (Int32.toInt64 (fA Y (10, 0, 0) 25 (Int32.toNatClampNeg l3))) (Int32.toInt64 (fA Y (10, 0, 0) 26 (Int32.toNatClampNeg l3))) (Int32.toInt64 (fA Y (10, 0, 0) 25 (Int32.toNatClampNeg l4))) (Int32.toInt64 (fA Y (10, 0, 0) 26 (Int32.toNatClampNeg l4))) Q)) ∧ (¬ (l1 = 4) → ((l1 = 5) → vp_in l3 8 ∧ (((fA Y (10, 0, 0) 24 (Int32.toNatClampNeg l3)) = 0) → L_152_166 V g Y l1 l2 l3 l4 (Int32.toInt64 (fA Y (10, 0, 0) 25 (Int32.toNatClampNeg l3))) (Int32.toInt64 (fA Y (10, 0, 0) 26 (Int32.toNatClampNeg l3))) (Int32.toInt64 (fA Y (10, 0, 0) 25 (Int32.toNatClampNeg l4))) (Int32.toInt64 (fA Y (10, 0, 0) 26 (Int32.toNatClampNeg l4))) Q) ∧ (¬ ((fA Y (10, 0, 0) 24 (Int32.toNatClampNeg l3)) = 0) → vp_in l4 8 ∧ (((fA Y (10, 0, 0) 24 (Int32.toNatClampNeg l4)) = 1) → L_149_0 V g Y l2 l3 (-(Int32.toInt64 (fA Y (10, 0, 0) 26 (Int32.toNatClampNeg l4)))) (-(Int32.toInt64 (fA Y (10, 0, 0) 25 (Int32.toNatClampNeg l4)))) (fun Y1 => L_152_383 V g Y1 l1 l2 l3 l4 (Int32.toInt64 (fA Y (10, 0, 0) 25 (Int32.toNatClampNeg l3))) (Int32.toInt64 (fA Y (10, 0, 0) 26 (Int32.toNatClampNeg l3))) (Int32.toInt64 (fA Y (10, 0, 0) 25 (Int32.toNatClampNeg l4))) (Int32.toInt64 (fA Y (10, 0, 0) 26 (Int32.toNatClampNeg l4))) Q)) ∧ (¬ ((fA Y (10, 0, 0) 24 (Int32.toNatClampNeg l4)) = 1) → L_152_166 V g Y l1 l2 l3 l4 (Int32.toInt64 (fA Y (10, 0, 0) 25 (Int32.toNatClampNeg l3))) (Int32.toInt64 (fA Y (10, 0, 0) 26 (Int32.toNatClampNeg l3))) (Int32.toInt64 (fA Y (10, 0, 0) 25 (Int32.toNatClampNeg l4))) (Int32.toInt64 (fA Y (10, 0, 0) 26 (Int32.toNatClampNeg l4))) Q))) ∧ (¬ (l1 = 5) → ((l1 = 6) → L_150_0 V g Y ((Int32.toInt64 (fA Y (10, 0, 0) 25 (Int32.toNatClampNeg l3))) * (Int32.toInt64 (fA Y (10, 0, 0) 25 (Int32.toNatClampNeg l4)))) ((Int32.toInt64 (fA Y (10, 0, 0) 25 (Int32.toNatClampNeg l3))) * (Int32.toInt64 (fA Y (10, 0, 0) 26 (Int32.toNatClampNeg l4)))) ((Int32.toInt64 (fA Y (10, 0, 0) 26 (Int32.toNatClampNeg l3))) * (Int32.toInt64 (fA Y (10, 0, 0) 25 (Int32.toNatClampNeg l4)))) ((Int32.toInt64 (fA Y (10, 0, 0) 26 (Int32.toNatClampNeg l3))) * (Int32.toInt64 (fA Y (10, 0, 0) 26 (Int32.toNatClampNeg l4)))) (fun x3 Y2 => L_151_0 V g Y2 ((Int32.toInt64 (fA Y (10, 0, 0) 25 (Int32.toNatClampNeg l3))) * (Int32.toInt64 (fA Y (10, 0, 0) 25 (Int32.toNatClampNeg l4)))) ((Int32.toInt64 (fA Y (10, 0, 0) 25 (Int32.toNatClampNeg l3))) * (Int32.toInt64 (fA Y (10, 0, 0) 26 (Int32.toNatClampNeg l4)))) ((Int32.toInt64 (fA Y (10, 0, 0) 26 (Int32.toNatClampNeg l3))) * (Int32.toInt64 (fA Y (10, 0, 0) 25 (Int32.toNatClampNeg l4)))) ((Int32.toInt64 (fA Y (10, 0, 0) 26 (Int32.toNatClampNeg l3))) * (Int32.toInt64 (fA Y (10, 0, 0) 26 (Int32.toNatClampNeg l4)))) (fun x5 Y4 => L_147_0 V g Y4 l2 1 x3 x5 (fun Y6 => L_152_383 V g Y6 l1 l2 l3 l4 (Int32.toInt64 (fA Y (10, 0, 0) 25 (Int32.toNatClampNeg l3))) (Int32.toInt64 (fA Y (10, 0, 0) 26 (Int32.toNatClampNeg l3))) (Int32.toInt64 (fA Y (10, 0, 0) 25 (Int32.toNatClampNeg l4))) (Int32.toInt64 (fA Y (10, 0, 0) 26 (Int32.toNatClampNeg l4))) Q)))) ∧ (¬ (l1 = 6) → ((0 < (Int32.toInt64 (fA Y (10, 0, 0) 25 (Int32.toNatClampNeg l4)))) → L_152_272 V g Y l1 l2 l3 l4 (Int32.toInt64 (fA Y (10, 0, 0) 25 (Int32.toNatClampNeg l3))) (Int32.toInt64 (fA Y (10, 0, 0) 26 (Int32.toNatClampNeg l3))) (Int32.toInt64 (fA Y (10, 0, 0) 25 (Int32.toNatClampNeg l4))) (Int32.toInt64 (fA Y (10, 0, 0) 26 (Int32.toNatClampNeg l4))) Q) ∧ (¬ (0 < (Int32.toInt64 (fA Y (10, 0, 0) 25 (Int32.toNatClampNeg l4)))) → (((Int32.toInt64 (fA Y (10, 0, 0) 26 (Int32.toNatClampNeg l4))) < 0) → L_152_272 V g Y l1 l2 l3 l4 (Int32.toInt64 (fA Y (10, 0, 0) 25 (Int32.toNatClampNeg l3))) (Int32.toInt64 (fA Y (10, 0, 0) 26 (Int32.toNatClampNeg l3))) (Int32.toInt64 (fA Y (10, 0, 0) 25 (Int32.toNatClampNeg l4))) (Int32.toInt64 (fA Y (10, 0, 0) 26 (Int32.toNatClampNeg l4))) Q) ∧ (¬ ((Int32.toInt64 (fA Y (10, 0, 0) 26 (Int32.toNatClampNeg l4))) < 0) → L_141_0 V g Y 5 (fun Y7 => L_152_383 V g Y7 l1 l2 l3 l4 (Int32.toInt64 (fA Y (10, 0, 0) 25 (Int32.toNatClampNeg l3))) (Int32.toInt64 (fA Y (10, 0, 0) 26 (Int32.toNatClampNeg l3))) (Int32.toInt64 (fA Y (10, 0, 0) 25 (Int32.toNatClampNeg l4))) (Int32.toInt64 (fA Y (10, 0, 0) 26 (Int32.toNatClampNeg l4))) Q))))))) : L_152_0 V g Y l1 l2 l3 l4 Q := by
  intro h lv R e0 e1 e2 e3 e4
  refine y_next (pc' := 1) (xst_of (i := (.aload_n 0)) (len := 1) rfl rfl (x_aloadV (xisV_r _) e0)) ?_
  refine z_gA (t := (10, 0, 0)) (k := 25) rfl rfl rfl R (rc_10 R) ?_
  refine y_next (pc' := 5) (xst_of (i := (.iload_n 3)) (len := 1) rfl rfl (x_ilo e3)) ?_
  refine z_aI (t := (10, 0, 0)) (k := 25) (n := 8) (i := l3) rfl rfl R (rc_10 R) H.1 ?_
  replace H := H.2
  refine y_next (pc' := 7) (xst_of (i := .i2l) (len := 1) rfl rfl rfl) ?_
  refine z_ls (i := (.lstore 5)) (len := 2) (pc' := 9) (q := 5) rfl rfl rfl (by decide) (fun lv1 hlv => ?_)
  have e0 := xs2_A hlv e0 rfl rfl
  have e1 := xs2_A hlv e1 rfl rfl
  have e2 := xs2_A hlv e2 rfl rfl
  have e3 := xs2_A hlv e3 rfl rfl
  have e4 := xs2_B hlv e4 rfl rfl
  have e5 := xs2_N hlv
  clear hlv
  refine y_next (pc' := 10) (xst_of (i := (.aload_n 0)) (len := 1) rfl rfl (x_aloadV (xisV_r _) e0)) ?_
  refine z_gA (t := (10, 0, 0)) (k := 26) rfl rfl rfl R (rc_10 R) ?_
  refine y_next (pc' := 14) (xst_of (i := (.iload_n 3)) (len := 1) rfl rfl (x_ilo e3)) ?_
  refine z_aI (t := (10, 0, 0)) (k := 26) (n := 8) (i := l3) rfl rfl R (rc_10 R) H.1 ?_
  replace H := H.2
  refine y_next (pc' := 16) (xst_of (i := .i2l) (len := 1) rfl rfl rfl) ?_
  refine z_ls (i := (.lstore 7)) (len := 2) (pc' := 18) (q := 7) rfl rfl rfl (by decide) (fun lv2 hlv => ?_)
  have e0 := xs2_A hlv e0 rfl rfl
  have e1 := xs2_A hlv e1 rfl rfl
  have e2 := xs2_A hlv e2 rfl rfl
  have e3 := xs2_A hlv e3 rfl rfl
  have e4 := xs2_A hlv e4 rfl rfl
  have e5 := xs2_A hlv e5 rfl rfl
  have e7 := xs2_N hlv
  clear hlv
  refine y_next (pc' := 19) (xst_of (i := (.aload_n 0)) (len := 1) rfl rfl (x_aloadV (xisV_r _) e0)) ?_
  refine z_gA (t := (10, 0, 0)) (k := 25) rfl rfl rfl R (rc_10 R) ?_
  refine y_next (pc' := 24) (xst_of (i := (.iload 4)) (len := 2) rfl rfl (x_ilo e4)) ?_
  refine z_aI (t := (10, 0, 0)) (k := 25) (n := 8) (i := l4) rfl rfl R (rc_10 R) H.1 ?_
  replace H := H.2
  refine y_next (pc' := 26) (xst_of (i := .i2l) (len := 1) rfl rfl rfl) ?_
  refine z_ls (i := (.lstore 9)) (len := 2) (pc' := 28) (q := 9) rfl rfl rfl (by decide) (fun lv3 hlv => ?_)
  have e0 := xs2_A hlv e0 rfl rfl
  have e1 := xs2_A hlv e1 rfl rfl
  have e2 := xs2_A hlv e2 rfl rfl
  have e3 := xs2_A hlv e3 rfl rfl
  have e4 := xs2_A hlv e4 rfl rfl
  have e5 := xs2_A hlv e5 rfl rfl
  have e7 := xs2_A hlv e7 rfl rfl
  have e9 := xs2_N hlv
  clear hlv
  refine y_next (pc' := 29) (xst_of (i := (.aload_n 0)) (len := 1) rfl rfl (x_aloadV (xisV_r _) e0)) ?_
  refine z_gA (t := (10, 0, 0)) (k := 26) rfl rfl rfl R (rc_10 R) ?_
  refine y_next (pc' := 34) (xst_of (i := (.iload 4)) (len := 2) rfl rfl (x_ilo e4)) ?_
  refine z_aI (t := (10, 0, 0)) (k := 26) (n := 8) (i := l4) rfl rfl R (rc_10 R) H.1 ?_
  replace H := H.2
  refine y_next (pc' := 36) (xst_of (i := .i2l) (len := 1) rfl rfl rfl) ?_
  refine z_ls (i := (.lstore 11)) (len := 2) (pc' := 38) (q := 11) rfl rfl rfl (by decide) (fun lv4 hlv => ?_)
  have e0 := xs2_A hlv e0 rfl rfl
  have e1 := xs2_A hlv e1 rfl rfl
  have e2 := xs2_A hlv e2 rfl rfl
  have e3 := xs2_A hlv e3 rfl rfl
  have e4 := xs2_A hlv e4 rfl rfl
  have e5 := xs2_A hlv e5 rfl rfl
  have e7 := xs2_A hlv e7 rfl rfl
  have e9 := xs2_A hlv e9 rfl rfl
  have e11 := xs2_N hlv
  clear hlv
  refine y_next (pc' := 39) (xst_of (i := (.iload_n 1)) (len := 1) rfl rfl (x_ilo e1)) ?_
  refine y_next (pc' := 40) (xst_of (i := (.iconst 4)) (len := 1) rfl rfl (x_ico (v := 4) (by decide))) ?_
  by_cases hc : l1 = 4
  · replace H := H.1 hc
    refine y_next (pc' := 43) (xst_of (i := (.if_icmp .ne 101)) (len := 3) rfl rfl (xf_icmp_ne (t := 141) rfl (fun z => z hc))) ?_
    refine y_next (pc' := 44) (xst_of (i := (.aload_n 0)) (len := 1) rfl rfl (x_aloadV (xisV_r _) e0)) ?_
    refine z_gA (t := (10, 0, 0)) (k := 24) rfl rfl rfl R (rc_10 R) ?_
    refine y_next (pc' := 48) (xst_of (i := (.iload_n 3)) (len := 1) rfl rfl (x_ilo e3)) ?_
    refine z_aI (t := (10, 0, 0)) (k := 24) (n := 8) (i := l3) rfl rfl R (rc_10 R) H.1 ?_
    replace H := H.2
    refine y_next (pc' := 50) (xst_of (i := (.iconst 1)) (len := 1) rfl rfl (x_ico (v := 1) (by decide))) ?_
    by_cases hc : (fA Y (10, 0, 0) 24 (Int32.toNatClampNeg l3)) = 1
    · replace H := H.1 hc
      refine y_next (pc' := 53) (xst_of (i := (.if_icmp .ne 13)) (len := 3) rfl rfl (xf_icmp_ne (t := 63) rfl (fun z => z hc))) ?_
      refine y_next (pc' := 54) (xst_of (i := (.aload_n 0)) (len := 1) rfl rfl (x_aloadV (xisV_r _) e0)) ?_
      refine z_gA (t := (10, 0, 0)) (k := 24) rfl rfl rfl R (rc_10 R) ?_
      refine y_next (pc' := 59) (xst_of (i := (.iload 4)) (len := 2) rfl rfl (x_ilo e4)) ?_
      refine z_aI (t := (10, 0, 0)) (k := 24) (n := 8) (i := l4) rfl rfl R (rc_10 R) H.1 ?_
      replace H := H.2
      by_cases hc : (fA Y (10, 0, 0) 24 (Int32.toNatClampNeg l4)) = 0
      · replace H := H.1 hc
        refine y_next (pc' := 63) (xst_of (i := (.ifCond .ne 24)) (len := 3) rfl rfl (xf_if_ne (t := 84) rfl (fun z => z hc))) ?_
        exact H _ _ R e0 e1 e2 e3 e4 e5 e7 e9 e11
      · replace H := H.2 hc
        refine y_next (xst_of (i := (.ifCond .ne 24)) (len := 3) rfl rfl (xt_if_ne (t := 84) rfl hc)) ?_
        exact H _ _ R e0 e1 e2 e3 e4 e5 e7 e9 e11
    · replace H := H.2 hc
      refine y_next (xst_of (i := (.if_icmp .ne 13)) (len := 3) rfl rfl (xt_icmp_ne (t := 63) rfl hc)) ?_
      exact H _ _ R e0 e1 e2 e3 e4 e5 e7 e9 e11
  · replace H := H.2 hc
    refine y_next (xst_of (i := (.if_icmp .ne 101)) (len := 3) rfl rfl (xt_icmp_ne (t := 141) rfl hc)) ?_
    refine y_next (pc' := 142) (xst_of (i := (.iload_n 1)) (len := 1) rfl rfl (x_ilo e1)) ?_
    refine y_next (pc' := 143) (xst_of (i := (.iconst 5)) (len := 1) rfl rfl (x_ico (v := 5) (by decide))) ?_
    by_cases hc : l1 = 5
    · replace H := H.1 hc
      refine y_next (pc' := 146) (xst_of (i := (.if_icmp .ne 46)) (len := 3) rfl rfl (xf_icmp_ne (t := 189) rfl (fun z => z hc))) ?_
      refine y_next (pc' := 147) (xst_of (i := (.aload_n 0)) (len := 1) rfl rfl (x_aloadV (xisV_r _) e0)) ?_
      refine z_gA (t := (10, 0, 0)) (k := 24) rfl rfl rfl R (rc_10 R) ?_
      refine y_next (pc' := 151) (xst_of (i := (.iload_n 3)) (len := 1) rfl rfl (x_ilo e3)) ?_
      refine z_aI (t := (10, 0, 0)) (k := 24) (n := 8) (i := l3) rfl rfl R (rc_10 R) H.1 ?_
      replace H := H.2
      by_cases hc : (fA Y (10, 0, 0) 24 (Int32.toNatClampNeg l3)) = 0
      · replace H := H.1 hc
        refine y_next (xst_of (i := (.ifCond .eq 14)) (len := 3) rfl rfl (xt_if_eq (t := 166) rfl hc)) ?_
        exact H _ _ R e0 e1 e2 e3 e4 e5 e7 e9 e11
      · replace H := H.2 hc
        refine y_next (pc' := 155) (xst_of (i := (.ifCond .eq 14)) (len := 3) rfl rfl (xf_if_eq (t := 166) rfl hc)) ?_
        refine y_next (pc' := 156) (xst_of (i := (.aload_n 0)) (len := 1) rfl rfl (x_aloadV (xisV_r _) e0)) ?_
        refine z_gA (t := (10, 0, 0)) (k := 24) rfl rfl rfl R (rc_10 R) ?_
        refine y_next (pc' := 161) (xst_of (i := (.iload 4)) (len := 2) rfl rfl (x_ilo e4)) ?_
        refine z_aI (t := (10, 0, 0)) (k := 24) (n := 8) (i := l4) rfl rfl R (rc_10 R) H.1 ?_
        replace H := H.2
        refine y_next (pc' := 163) (xst_of (i := (.iconst 1)) (len := 1) rfl rfl (x_ico (v := 1) (by decide))) ?_
        by_cases hc : (fA Y (10, 0, 0) 24 (Int32.toNatClampNeg l4)) = 1
        · replace H := H.1 hc
          refine y_next (xst_of (i := (.if_icmp .eq 11)) (len := 3) rfl rfl (xt_icmp_eq (t := 174) rfl hc)) ?_
          refine y_next (pc' := 175) (xst_of (i := (.aload_n 0)) (len := 1) rfl rfl (x_aloadV (xisV_r _) e0)) ?_
          refine y_next (pc' := 176) (xst_of (i := (.iload_n 2)) (len := 1) rfl rfl (x_ilo e2)) ?_
          refine y_next (pc' := 177) (xst_of (i := (.iload_n 3)) (len := 1) rfl rfl (x_ilo e3)) ?_
          refine y_next (pc' := 179) (xst_of (i := (.lload 11)) (len := 2) rfl rfl (x_llo e11)) ?_
          refine y_next (pc' := 180) (xst_of (i := .lneg) (len := 1) rfl rfl rfl) ?_
          refine y_next (pc' := 182) (xst_of (i := (.lload 9)) (len := 2) rfl rfl (x_llo e9)) ?_
          refine y_next (pc' := 183) (xst_of (i := .lneg) (len := 1) rfl rfl rfl) ?_
          refine z_cN (k := 149) (i := (.invokevirtual 233)) (as := [.ref (g.2 (10, 0, 0) 0), .int l2, .int l3, .long (-(Int32.toInt64 (fA Y (10, 0, 0) 26 (Int32.toNatClampNeg l4)))), .long (-(Int32.toInt64 (fA Y (10, 0, 0) 25 (Int32.toNatClampNeg l4))))]) (rest := []) rfl rfl (x_callv rfl rfl (rc_ob R (rc_10 R) rfl) rfl rfl) (H _ _ R rfl rfl rfl rfl rfl) (fun h Y1 R H => ?_)
          refine y_next (pc' := 383) (xst_of (i := (.goto 197)) (len := 3) rfl rfl rfl) ?_
          exact H _ _ R e0 e1 e2 e3 e4 e5 e7 e9 e11
        · replace H := H.2 hc
          refine y_next (pc' := 166) (xst_of (i := (.if_icmp .eq 11)) (len := 3) rfl rfl (xf_icmp_eq (t := 174) rfl hc)) ?_
          exact H _ _ R e0 e1 e2 e3 e4 e5 e7 e9 e11
    · replace H := H.2 hc
      refine y_next (xst_of (i := (.if_icmp .ne 46)) (len := 3) rfl rfl (xt_icmp_ne (t := 189) rfl hc)) ?_
      refine y_next (pc' := 190) (xst_of (i := (.iload_n 1)) (len := 1) rfl rfl (x_ilo e1)) ?_
      refine y_next (pc' := 192) (xst_of (i := (.bipush 6)) (len := 2) rfl rfl (x_bip (v := 6) (by decide))) ?_
      by_cases hc : l1 = 6
      · replace H := H.1 hc
        refine y_next (pc' := 195) (xst_of (i := (.if_icmp .ne 58)) (len := 3) rfl rfl (xf_icmp_ne (t := 250) rfl (fun z => z hc))) ?_
        refine y_next (pc' := 196) (xst_of (i := (.aload_n 0)) (len := 1) rfl rfl (x_aloadV (xisV_r _) e0)) ?_
        refine y_next (pc' := 197) (xst_of (i := (.iload_n 2)) (len := 1) rfl rfl (x_ilo e2)) ?_
        refine y_next (pc' := 198) (xst_of (i := (.iconst 1)) (len := 1) rfl rfl (x_ico (v := 1) (by decide))) ?_
        refine y_next (pc' := 200) (xst_of (i := (.lload 5)) (len := 2) rfl rfl (x_llo e5)) ?_
        refine y_next (pc' := 202) (xst_of (i := (.lload 9)) (len := 2) rfl rfl (x_llo e9)) ?_
        refine y_next (pc' := 203) (xst_of (i := .lmul) (len := 1) rfl rfl rfl) ?_
        refine y_next (pc' := 205) (xst_of (i := (.lload 5)) (len := 2) rfl rfl (x_llo e5)) ?_
        refine y_next (pc' := 207) (xst_of (i := (.lload 11)) (len := 2) rfl rfl (x_llo e11)) ?_
        refine y_next (pc' := 208) (xst_of (i := .lmul) (len := 1) rfl rfl rfl) ?_
        refine y_next (pc' := 210) (xst_of (i := (.lload 7)) (len := 2) rfl rfl (x_llo e7)) ?_
        refine y_next (pc' := 212) (xst_of (i := (.lload 9)) (len := 2) rfl rfl (x_llo e9)) ?_
        refine y_next (pc' := 213) (xst_of (i := .lmul) (len := 1) rfl rfl rfl) ?_
        refine y_next (pc' := 215) (xst_of (i := (.lload 7)) (len := 2) rfl rfl (x_llo e7)) ?_
        refine y_next (pc' := 217) (xst_of (i := (.lload 11)) (len := 2) rfl rfl (x_llo e11)) ?_
        refine y_next (pc' := 218) (xst_of (i := .lmul) (len := 1) rfl rfl rfl) ?_
        refine z_cL (k := 150) (i := (.invokestatic 236)) (as := [.long ((Int32.toInt64 (fA Y (10, 0, 0) 25 (Int32.toNatClampNeg l3))) * (Int32.toInt64 (fA Y (10, 0, 0) 25 (Int32.toNatClampNeg l4)))), .long ((Int32.toInt64 (fA Y (10, 0, 0) 25 (Int32.toNatClampNeg l3))) * (Int32.toInt64 (fA Y (10, 0, 0) 26 (Int32.toNatClampNeg l4)))), .long ((Int32.toInt64 (fA Y (10, 0, 0) 26 (Int32.toNatClampNeg l3))) * (Int32.toInt64 (fA Y (10, 0, 0) 25 (Int32.toNatClampNeg l4)))), .long ((Int32.toInt64 (fA Y (10, 0, 0) 26 (Int32.toNatClampNeg l3))) * (Int32.toInt64 (fA Y (10, 0, 0) 26 (Int32.toNatClampNeg l4))))]) (rest := [.int 1, .int l2, .ref (g.2 (10, 0, 0) 0)]) rfl rfl rfl (H _ _ R rfl rfl rfl rfl) (fun x3 h Y2 R H => ?_)
        refine y_next (pc' := 223) (xst_of (i := (.lload 5)) (len := 2) rfl rfl (x_llo e5)) ?_
        refine y_next (pc' := 225) (xst_of (i := (.lload 9)) (len := 2) rfl rfl (x_llo e9)) ?_
        refine y_next (pc' := 226) (xst_of (i := .lmul) (len := 1) rfl rfl rfl) ?_
        refine y_next (pc' := 228) (xst_of (i := (.lload 5)) (len := 2) rfl rfl (x_llo e5)) ?_
        refine y_next (pc' := 230) (xst_of (i := (.lload 11)) (len := 2) rfl rfl (x_llo e11)) ?_
        refine y_next (pc' := 231) (xst_of (i := .lmul) (len := 1) rfl rfl rfl) ?_
        refine y_next (pc' := 233) (xst_of (i := (.lload 7)) (len := 2) rfl rfl (x_llo e7)) ?_
        refine y_next (pc' := 235) (xst_of (i := (.lload 9)) (len := 2) rfl rfl (x_llo e9)) ?_
        refine y_next (pc' := 236) (xst_of (i := .lmul) (len := 1) rfl rfl rfl) ?_
        refine y_next (pc' := 238) (xst_of (i := (.lload 7)) (len := 2) rfl rfl (x_llo e7)) ?_
        refine y_next (pc' := 240) (xst_of (i := (.lload 11)) (len := 2) rfl rfl (x_llo e11)) ?_
        refine y_next (pc' := 241) (xst_of (i := .lmul) (len := 1) rfl rfl rfl) ?_
        refine z_cL (k := 151) (i := (.invokestatic 240)) (as := [.long ((Int32.toInt64 (fA Y (10, 0, 0) 25 (Int32.toNatClampNeg l3))) * (Int32.toInt64 (fA Y (10, 0, 0) 25 (Int32.toNatClampNeg l4)))), .long ((Int32.toInt64 (fA Y (10, 0, 0) 25 (Int32.toNatClampNeg l3))) * (Int32.toInt64 (fA Y (10, 0, 0) 26 (Int32.toNatClampNeg l4)))), .long ((Int32.toInt64 (fA Y (10, 0, 0) 26 (Int32.toNatClampNeg l3))) * (Int32.toInt64 (fA Y (10, 0, 0) 25 (Int32.toNatClampNeg l4)))), .long ((Int32.toInt64 (fA Y (10, 0, 0) 26 (Int32.toNatClampNeg l3))) * (Int32.toInt64 (fA Y (10, 0, 0) 26 (Int32.toNatClampNeg l4))))]) (rest := [.long x3, .int 1, .int l2, .ref (g.2 (10, 0, 0) 0)]) rfl rfl rfl (H _ _ R rfl rfl rfl rfl) (fun x5 h Y4 R H => ?_)
        refine z_cN (k := 147) (i := (.invokevirtual 216)) (as := [.ref (g.2 (10, 0, 0) 0), .int l2, .int 1, .long x3, .long x5]) (rest := []) rfl rfl (x_callv rfl rfl (rc_ob R (rc_10 R) rfl) rfl rfl) (H _ _ R rfl rfl rfl rfl rfl) (fun h Y6 R H => ?_)
        refine y_next (pc' := 383) (xst_of (i := (.goto 136)) (len := 3) rfl rfl rfl) ?_
        exact H _ _ R e0 e1 e2 e3 e4 e5 e7 e9 e11
      · replace H := H.2 hc
        refine y_next (xst_of (i := (.if_icmp .ne 58)) (len := 3) rfl rfl (xt_icmp_ne (t := 250) rfl hc)) ?_
        refine y_next (pc' := 252) (xst_of (i := (.lload 9)) (len := 2) rfl rfl (x_llo e9)) ?_
        refine y_next (pc' := 253) (xst_of (i := (.lconst 0)) (len := 1) rfl rfl (x_lco (v := 0) (by decide))) ?_
        refine y_next (pc' := 254) (xst_of (i := .lcmp) (len := 1) rfl rfl rfl) ?_
        by_cases hc : 0 < (Int32.toInt64 (fA Y (10, 0, 0) 25 (Int32.toNatClampNeg l4)))
        · replace H := H.1 hc
          refine y_next (xst_of (i := (.ifCond .gt 18)) (len := 3) rfl rfl (xt_if_gt (t := 272) rfl ((lg_cmp_gt (Int32.toInt64 (fA Y (10, 0, 0) 25 (Int32.toNatClampNeg l4))) 0).mpr hc))) ?_
          exact H _ _ R e0 e1 e2 e3 e4 e5 e7 e9 e11
        · replace H := H.2 hc
          refine y_next (pc' := 257) (xst_of (i := (.ifCond .gt 18)) (len := 3) rfl rfl (xf_if_gt (t := 272) rfl (fun z => hc ((lg_cmp_gt (Int32.toInt64 (fA Y (10, 0, 0) 25 (Int32.toNatClampNeg l4))) 0).mp z)))) ?_
          refine y_next (pc' := 259) (xst_of (i := (.lload 11)) (len := 2) rfl rfl (x_llo e11)) ?_
          refine y_next (pc' := 260) (xst_of (i := (.lconst 0)) (len := 1) rfl rfl (x_lco (v := 0) (by decide))) ?_
          refine y_next (pc' := 261) (xst_of (i := .lcmp) (len := 1) rfl rfl rfl) ?_
          by_cases hc : (Int32.toInt64 (fA Y (10, 0, 0) 26 (Int32.toNatClampNeg l4))) < 0
          · replace H := H.1 hc
            refine y_next (xst_of (i := (.ifCond .lt 11)) (len := 3) rfl rfl (xt_if_lt (t := 272) rfl ((lg_cmp_lt (Int32.toInt64 (fA Y (10, 0, 0) 26 (Int32.toNatClampNeg l4))) 0).mpr hc))) ?_
            exact H _ _ R e0 e1 e2 e3 e4 e5 e7 e9 e11
          · replace H := H.2 hc
            refine y_next (pc' := 264) (xst_of (i := (.ifCond .lt 11)) (len := 3) rfl rfl (xf_if_lt (t := 272) rfl (fun z => hc ((lg_cmp_lt (Int32.toInt64 (fA Y (10, 0, 0) 26 (Int32.toNatClampNeg l4))) 0).mp z)))) ?_
            refine y_next (pc' := 265) (xst_of (i := (.aload_n 0)) (len := 1) rfl rfl (x_aloadV (xisV_r _) e0)) ?_
            refine y_next (pc' := 266) (xst_of (i := (.iconst 5)) (len := 1) rfl rfl (x_ico (v := 5) (by decide))) ?_
            refine z_cN (k := 141) (i := (.invokevirtual 187)) (as := [.ref (g.2 (10, 0, 0) 0), .int 5]) (rest := []) rfl rfl (x_callv rfl rfl (rc_ob R (rc_10 R) rfl) rfl rfl) (H _ _ R rfl rfl) (fun h Y7 R H => ?_)
            refine y_next (pc' := 383) (xst_of (i := (.goto 114)) (len := 3) rfl rfl rfl) ?_
            exact H _ _ R e0 e1 e2 e3 e4 e5 e7 e9 e11
set_option maxRecDepth 20000 in
theorem l_152_63 {V : xV} {g : xG} {Y : xW} {l1 : Int32} {l2 : Int32} {l3 : Int32} {l4 : Int32} {l5 : Int64} {l7 : Int64} {l9 : Int64} {l11 : Int64} {Q : xW → Prop} (H : vp_in l3 8 ∧ (((fA Y (10, 0, 0) 24 (Int32.toNatClampNeg l3)) = 2) → vp_in l4 8 ∧ (((fA Y (10, 0, 0) 24 (Int32.toNatClampNeg l4)) = 1) → L_152_84 V g Y l1 l2 l3 l4 l5 l7 l9 l11 Q) ∧ (¬ ((fA Y (10, 0, 0) 24 (Int32.toNatClampNeg l4)) = 1) → L_152_88 V g Y l1 l2 l3 l4 l5 l7 l9 l11 Q)) ∧ (¬ ((fA Y (10, 0, 0) 24 (Int32.toNatClampNeg l3)) = 2) → L_152_88 V g Y l1 l2 l3 l4 l5 l7 l9 l11 Q)) : L_152_63 V g Y l1 l2 l3 l4 l5 l7 l9 l11 Q := by
  intro h lv R e0 e1 e2 e3 e4 e5 e7 e9 e11
  refine y_next (pc' := 64) (xst_of (i := (.aload_n 0)) (len := 1) rfl rfl (x_aloadV (xisV_r _) e0)) ?_
  refine z_gA (t := (10, 0, 0)) (k := 24) rfl rfl rfl R (rc_10 R) ?_
  refine y_next (pc' := 68) (xst_of (i := (.iload_n 3)) (len := 1) rfl rfl (x_ilo e3)) ?_
  refine z_aI (t := (10, 0, 0)) (k := 24) (n := 8) (i := l3) rfl rfl R (rc_10 R) H.1 ?_
  replace H := H.2
  refine y_next (pc' := 70) (xst_of (i := (.iconst 2)) (len := 1) rfl rfl (x_ico (v := 2) (by decide))) ?_
  by_cases hc : (fA Y (10, 0, 0) 24 (Int32.toNatClampNeg l3)) = 2
  · replace H := H.1 hc
    refine y_next (pc' := 73) (xst_of (i := (.if_icmp .ne 18)) (len := 3) rfl rfl (xf_icmp_ne (t := 88) rfl (fun z => z hc))) ?_
    refine y_next (pc' := 74) (xst_of (i := (.aload_n 0)) (len := 1) rfl rfl (x_aloadV (xisV_r _) e0)) ?_
    refine z_gA (t := (10, 0, 0)) (k := 24) rfl rfl rfl R (rc_10 R) ?_
    refine y_next (pc' := 79) (xst_of (i := (.iload 4)) (len := 2) rfl rfl (x_ilo e4)) ?_
    refine z_aI (t := (10, 0, 0)) (k := 24) (n := 8) (i := l4) rfl rfl R (rc_10 R) H.1 ?_
    replace H := H.2
    refine y_next (pc' := 81) (xst_of (i := (.iconst 1)) (len := 1) rfl rfl (x_ico (v := 1) (by decide))) ?_
    by_cases hc : (fA Y (10, 0, 0) 24 (Int32.toNatClampNeg l4)) = 1
    · replace H := H.1 hc
      refine y_next (pc' := 84) (xst_of (i := (.if_icmp .ne 7)) (len := 3) rfl rfl (xf_icmp_ne (t := 88) rfl (fun z => z hc))) ?_
      exact H _ _ R e0 e1 e2 e3 e4 e5 e7 e9 e11
    · replace H := H.2 hc
      refine y_next (xst_of (i := (.if_icmp .ne 7)) (len := 3) rfl rfl (xt_icmp_ne (t := 88) rfl hc)) ?_
      exact H _ _ R e0 e1 e2 e3 e4 e5 e7 e9 e11
  · replace H := H.2 hc
    refine y_next (xst_of (i := (.if_icmp .ne 18)) (len := 3) rfl rfl (xt_icmp_ne (t := 88) rfl hc)) ?_
    exact H _ _ R e0 e1 e2 e3 e4 e5 e7 e9 e11
set_option maxRecDepth 20000 in
theorem l_152_84 {V : xV} {g : xG} {Y : xW} {l1 : Int32} {l2 : Int32} {l3 : Int32} {l4 : Int32} {l5 : Int64} {l7 : Int64} {l9 : Int64} {l11 : Int64} {Q : xW → Prop} (H : L_152_89 V g Y l1 l2 l3 l4 l5 l7 l9 l11 1 Q) : L_152_84 V g Y l1 l2 l3 l4 l5 l7 l9 l11 Q := by
  intro h lv R e0 e1 e2 e3 e4 e5 e7 e9 e11
  refine y_next (pc' := 85) (xst_of (i := (.iconst 1)) (len := 1) rfl rfl (x_ico (v := 1) (by decide))) ?_
  refine y_next (pc' := 89) (xst_of (i := (.goto 4)) (len := 3) rfl rfl rfl) ?_
  exact H _ _ R e0 e1 e2 e3 e4 e5 e7 e9 e11
set_option maxRecDepth 20000 in
theorem l_152_88 {V : xV} {g : xG} {Y : xW} {l1 : Int32} {l2 : Int32} {l3 : Int32} {l4 : Int32} {l5 : Int64} {l7 : Int64} {l9 : Int64} {l11 : Int64} {Q : xW → Prop} (H : L_152_89 V g Y l1 l2 l3 l4 l5 l7 l9 l11 0 Q) : L_152_88 V g Y l1 l2 l3 l4 l5 l7 l9 l11 Q := by
  intro h lv R e0 e1 e2 e3 e4 e5 e7 e9 e11
  refine y_next (pc' := 89) (xst_of (i := (.iconst 0)) (len := 1) rfl rfl (x_ico (v := 0) (by decide))) ?_
  exact H _ _ R e0 e1 e2 e3 e4 e5 e7 e9 e11
set_option maxRecDepth 20000 in
theorem l_152_89 {V : xV} {g : xG} {Y : xW} {l1 : Int32} {l2 : Int32} {l3 : Int32} {l4 : Int32} {l5 : Int64} {l7 : Int64} {l9 : Int64} {l11 : Int64} {s0 : Int32} {Q : xW → Prop} (H : ((s0 = 0) → L_141_0 V g Y 2 (fun Y1 => L_152_138 V g Y1 l1 l2 l3 l4 l5 l7 l9 l11 s0 Q)) ∧ (¬ (s0 = 0) → vp_in l3 8 ∧ (((fA Y (10, 0, 0) 24 (Int32.toNatClampNeg l3)) = 2) → L_149_0 V g Y l2 l3 l9 l11 (fun Y2 => L_152_138 V g Y2 l1 l2 l3 l4 l5 l7 l9 l11 s0 Q)) ∧ (¬ ((fA Y (10, 0, 0) 24 (Int32.toNatClampNeg l3)) = 2) → L_149_0 V g Y l2 l4 l5 l7 (fun Y3 => L_152_138 V g Y3 l1 l2 l3 l4 l5 l7 l9 l11 s0 Q)))) : L_152_89 V g Y l1 l2 l3 l4 l5 l7 l9 l11 s0 Q := by
  intro h lv R e0 e1 e2 e3 e4 e5 e7 e9 e11
  refine z_is (i := (.istore 13)) (len := 2) (pc' := 91) (q := 13) rfl rfl rfl (by decide) (fun lv1 hlv => ?_)
  have e0 := xs1_A hlv e0 rfl rfl
  have e1 := xs1_A hlv e1 rfl rfl
  have e2 := xs1_A hlv e2 rfl rfl
  have e3 := xs1_A hlv e3 rfl rfl
  have e4 := xs1_A hlv e4 rfl rfl
  have e5 := xs1_A hlv e5 rfl rfl
  have e7 := xs1_A hlv e7 rfl rfl
  have e9 := xs1_A hlv e9 rfl rfl
  have e11 := xs1_A hlv e11 rfl rfl
  have e13 := xs1_N hlv
  clear hlv
  refine y_next (pc' := 93) (xst_of (i := (.iload 13)) (len := 2) rfl rfl (x_ilo e13)) ?_
  by_cases hc : s0 = 0
  · replace H := H.1 hc
    refine y_next (pc' := 96) (xst_of (i := (.ifCond .ne 11)) (len := 3) rfl rfl (xf_if_ne (t := 104) rfl (fun z => z hc))) ?_
    refine y_next (pc' := 97) (xst_of (i := (.aload_n 0)) (len := 1) rfl rfl (x_aloadV (xisV_r _) e0)) ?_
    refine y_next (pc' := 98) (xst_of (i := (.iconst 2)) (len := 1) rfl rfl (x_ico (v := 2) (by decide))) ?_
    refine z_cN (k := 141) (i := (.invokevirtual 187)) (as := [.ref (g.2 (10, 0, 0) 0), .int 2]) (rest := []) rfl rfl (x_callv rfl rfl (rc_ob R (rc_10 R) rfl) rfl rfl) (H _ _ R rfl rfl) (fun h Y1 R H => ?_)
    refine y_next (pc' := 138) (xst_of (i := (.goto 37)) (len := 3) rfl rfl rfl) ?_
    exact H _ _ R e0 e1 e2 e3 e4 e5 e7 e9 e11 e13
  · replace H := H.2 hc
    refine y_next (xst_of (i := (.ifCond .ne 11)) (len := 3) rfl rfl (xt_if_ne (t := 104) rfl hc)) ?_
    refine y_next (pc' := 105) (xst_of (i := (.aload_n 0)) (len := 1) rfl rfl (x_aloadV (xisV_r _) e0)) ?_
    refine z_gA (t := (10, 0, 0)) (k := 24) rfl rfl rfl R (rc_10 R) ?_
    refine y_next (pc' := 109) (xst_of (i := (.iload_n 3)) (len := 1) rfl rfl (x_ilo e3)) ?_
    refine z_aI (t := (10, 0, 0)) (k := 24) (n := 8) (i := l3) rfl rfl R (rc_10 R) H.1 ?_
    replace H := H.2
    refine y_next (pc' := 111) (xst_of (i := (.iconst 2)) (len := 1) rfl rfl (x_ico (v := 2) (by decide))) ?_
    by_cases hc : (fA Y (10, 0, 0) 24 (Int32.toNatClampNeg l3)) = 2
    · replace H := H.1 hc
      refine y_next (pc' := 114) (xst_of (i := (.if_icmp .ne 16)) (len := 3) rfl rfl (xf_icmp_ne (t := 127) rfl (fun z => z hc))) ?_
      refine y_next (pc' := 115) (xst_of (i := (.aload_n 0)) (len := 1) rfl rfl (x_aloadV (xisV_r _) e0)) ?_
      refine y_next (pc' := 116) (xst_of (i := (.iload_n 2)) (len := 1) rfl rfl (x_ilo e2)) ?_
      refine y_next (pc' := 117) (xst_of (i := (.iload_n 3)) (len := 1) rfl rfl (x_ilo e3)) ?_
      refine y_next (pc' := 119) (xst_of (i := (.lload 9)) (len := 2) rfl rfl (x_llo e9)) ?_
      refine y_next (pc' := 121) (xst_of (i := (.lload 11)) (len := 2) rfl rfl (x_llo e11)) ?_
      refine z_cN (k := 149) (i := (.invokevirtual 233)) (as := [.ref (g.2 (10, 0, 0) 0), .int l2, .int l3, .long l9, .long l11]) (rest := []) rfl rfl (x_callv rfl rfl (rc_ob R (rc_10 R) rfl) rfl rfl) (H _ _ R rfl rfl rfl rfl rfl) (fun h Y2 R H => ?_)
      refine y_next (pc' := 138) (xst_of (i := (.goto 14)) (len := 3) rfl rfl rfl) ?_
      exact H _ _ R e0 e1 e2 e3 e4 e5 e7 e9 e11 e13
    · replace H := H.2 hc
      refine y_next (xst_of (i := (.if_icmp .ne 16)) (len := 3) rfl rfl (xt_icmp_ne (t := 127) rfl hc)) ?_
      refine y_next (pc' := 128) (xst_of (i := (.aload_n 0)) (len := 1) rfl rfl (x_aloadV (xisV_r _) e0)) ?_
      refine y_next (pc' := 129) (xst_of (i := (.iload_n 2)) (len := 1) rfl rfl (x_ilo e2)) ?_
      refine y_next (pc' := 131) (xst_of (i := (.iload 4)) (len := 2) rfl rfl (x_ilo e4)) ?_
      refine y_next (pc' := 133) (xst_of (i := (.lload 5)) (len := 2) rfl rfl (x_llo e5)) ?_
      refine y_next (pc' := 135) (xst_of (i := (.lload 7)) (len := 2) rfl rfl (x_llo e7)) ?_
      refine z_cN (k := 149) (i := (.invokevirtual 233)) (as := [.ref (g.2 (10, 0, 0) 0), .int l2, .int l4, .long l5, .long l7]) (rest := []) rfl rfl (x_callv rfl rfl (rc_ob R (rc_10 R) rfl) rfl rfl) (H _ _ R rfl rfl rfl rfl rfl) (fun h Y3 R H => ?_)
      exact H _ _ R e0 e1 e2 e3 e4 e5 e7 e9 e11 e13
set_option maxRecDepth 20000 in
theorem l_152_138 {V : xV} {g : xG} {Y : xW} {l1 : Int32} {l2 : Int32} {l3 : Int32} {l4 : Int32} {l5 : Int64} {l7 : Int64} {l9 : Int64} {l11 : Int64} {l13 : Int32} {Q : xW → Prop} (H : L_152_383 V g Y l1 l2 l3 l4 l5 l7 l9 l11 Q) : L_152_138 V g Y l1 l2 l3 l4 l5 l7 l9 l11 l13 Q := by
  intro h lv R e0 e1 e2 e3 e4 e5 e7 e9 e11 e13
  refine y_next (pc' := 383) (xst_of (i := (.goto 245)) (len := 3) rfl rfl rfl) ?_
  exact H _ _ R e0 e1 e2 e3 e4 e5 e7 e9 e11
set_option maxRecDepth 20000 in
theorem l_152_166 {V : xV} {g : xG} {Y : xW} {l1 : Int32} {l2 : Int32} {l3 : Int32} {l4 : Int32} {l5 : Int64} {l7 : Int64} {l9 : Int64} {l11 : Int64} {Q : xW → Prop} (H : L_141_0 V g Y 2 (fun Y1 => L_152_383 V g Y1 l1 l2 l3 l4 l5 l7 l9 l11 Q)) : L_152_166 V g Y l1 l2 l3 l4 l5 l7 l9 l11 Q := by
  intro h lv R e0 e1 e2 e3 e4 e5 e7 e9 e11
  refine y_next (pc' := 167) (xst_of (i := (.aload_n 0)) (len := 1) rfl rfl (x_aloadV (xisV_r _) e0)) ?_
  refine y_next (pc' := 168) (xst_of (i := (.iconst 2)) (len := 1) rfl rfl (x_ico (v := 2) (by decide))) ?_
  refine z_cN (k := 141) (i := (.invokevirtual 187)) (as := [.ref (g.2 (10, 0, 0) 0), .int 2]) (rest := []) rfl rfl (x_callv rfl rfl (rc_ob R (rc_10 R) rfl) rfl rfl) (H _ _ R rfl rfl) (fun h Y1 R H => ?_)
  refine y_next (pc' := 383) (xst_of (i := (.goto 212)) (len := 3) rfl rfl rfl) ?_
  exact H _ _ R e0 e1 e2 e3 e4 e5 e7 e9 e11
set_option maxRecDepth 20000 in
theorem l_152_272 {V : xV} {g : xG} {Y : xW} {l1 : Int32} {l2 : Int32} {l3 : Int32} {l4 : Int32} {l5 : Int64} {l7 : Int64} {l9 : Int64} {l11 : Int64} {Q : xW → Prop} (H : ((l1 = 7) → (¬ l9 = 0) ∧ (¬ l11 = 0) ∧ (¬ l9 = 0) ∧ (¬ l11 = 0) ∧ L_150_0 V g Y (l5 / l9) (l5 / l11) (l7 / l9) (l7 / l11) (fun x2 Y1 => (¬ l9 = 0) ∧ (¬ l11 = 0) ∧ (¬ l9 = 0) ∧ (¬ l11 = 0) ∧ L_151_0 V g Y1 (l5 / l9) (l5 / l11) (l7 / l9) (l7 / l11) (fun x4 Y3 => L_147_0 V g Y3 l2 1 x2 x4 (fun Y5 => L_152_383 V g Y5 l1 l2 l3 l4 l5 l7 l9 l11 Q)))) ∧ (¬ (l1 = 7) → L_184_0 V g Y l9 (fun x7 Y6 => L_184_0 V g Y6 l11 (fun x9 Y8 => L_186_0 V g Y8 x7 x9 (fun x11 Y10 => ((0 ≤ l5) → L_152_367 V g Y10 l1 l2 l3 l4 l5 l7 l9 l11 (x11 - 1) l2 1 0 Q) ∧ (¬ (0 ≤ l5) → L_152_367 V g Y10 l1 l2 l3 l4 l5 l7 l9 l11 (x11 - 1) l2 1 (-(x11 - 1)) Q)))))) : L_152_272 V g Y l1 l2 l3 l4 l5 l7 l9 l11 Q := by
  intro h lv R e0 e1 e2 e3 e4 e5 e7 e9 e11
  refine y_next (pc' := 273) (xst_of (i := (.iload_n 1)) (len := 1) rfl rfl (x_ilo e1)) ?_
  refine y_next (pc' := 275) (xst_of (i := (.bipush 7)) (len := 2) rfl rfl (x_bip (v := 7) (by decide))) ?_
  by_cases hc : l1 = 7
  · replace H := H.1 hc
    refine y_next (pc' := 278) (xst_of (i := (.if_icmp .ne 58)) (len := 3) rfl rfl (xf_icmp_ne (t := 333) rfl (fun z => z hc))) ?_
    refine y_next (pc' := 279) (xst_of (i := (.aload_n 0)) (len := 1) rfl rfl (x_aloadV (xisV_r _) e0)) ?_
    refine y_next (pc' := 280) (xst_of (i := (.iload_n 2)) (len := 1) rfl rfl (x_ilo e2)) ?_
    refine y_next (pc' := 281) (xst_of (i := (.iconst 1)) (len := 1) rfl rfl (x_ico (v := 1) (by decide))) ?_
    refine y_next (pc' := 283) (xst_of (i := (.lload 5)) (len := 2) rfl rfl (x_llo e5)) ?_
    refine y_next (pc' := 285) (xst_of (i := (.lload 9)) (len := 2) rfl rfl (x_llo e9)) ?_
    refine y_next (pc' := 286) (xst_of (i := .ldiv) (len := 1) rfl rfl (x_ldiv H.1)) ?_
    replace H := H.2
    refine y_next (pc' := 288) (xst_of (i := (.lload 5)) (len := 2) rfl rfl (x_llo e5)) ?_
    refine y_next (pc' := 290) (xst_of (i := (.lload 11)) (len := 2) rfl rfl (x_llo e11)) ?_
    refine y_next (pc' := 291) (xst_of (i := .ldiv) (len := 1) rfl rfl (x_ldiv H.1)) ?_
    replace H := H.2
    refine y_next (pc' := 293) (xst_of (i := (.lload 7)) (len := 2) rfl rfl (x_llo e7)) ?_
    refine y_next (pc' := 295) (xst_of (i := (.lload 9)) (len := 2) rfl rfl (x_llo e9)) ?_
    refine y_next (pc' := 296) (xst_of (i := .ldiv) (len := 1) rfl rfl (x_ldiv H.1)) ?_
    replace H := H.2
    refine y_next (pc' := 298) (xst_of (i := (.lload 7)) (len := 2) rfl rfl (x_llo e7)) ?_
    refine y_next (pc' := 300) (xst_of (i := (.lload 11)) (len := 2) rfl rfl (x_llo e11)) ?_
    refine y_next (pc' := 301) (xst_of (i := .ldiv) (len := 1) rfl rfl (x_ldiv H.1)) ?_
    replace H := H.2
    refine z_cL (k := 150) (i := (.invokestatic 236)) (as := [.long (l5 / l9), .long (l5 / l11), .long (l7 / l9), .long (l7 / l11)]) (rest := [.int 1, .int l2, .ref (g.2 (10, 0, 0) 0)]) rfl rfl rfl (H _ _ R rfl rfl rfl rfl) (fun x2 h Y1 R H => ?_)
    refine y_next (pc' := 306) (xst_of (i := (.lload 5)) (len := 2) rfl rfl (x_llo e5)) ?_
    refine y_next (pc' := 308) (xst_of (i := (.lload 9)) (len := 2) rfl rfl (x_llo e9)) ?_
    refine y_next (pc' := 309) (xst_of (i := .ldiv) (len := 1) rfl rfl (x_ldiv H.1)) ?_
    replace H := H.2
    refine y_next (pc' := 311) (xst_of (i := (.lload 5)) (len := 2) rfl rfl (x_llo e5)) ?_
    refine y_next (pc' := 313) (xst_of (i := (.lload 11)) (len := 2) rfl rfl (x_llo e11)) ?_
    refine y_next (pc' := 314) (xst_of (i := .ldiv) (len := 1) rfl rfl (x_ldiv H.1)) ?_
    replace H := H.2
    refine y_next (pc' := 316) (xst_of (i := (.lload 7)) (len := 2) rfl rfl (x_llo e7)) ?_
    refine y_next (pc' := 318) (xst_of (i := (.lload 9)) (len := 2) rfl rfl (x_llo e9)) ?_
    refine y_next (pc' := 319) (xst_of (i := .ldiv) (len := 1) rfl rfl (x_ldiv H.1)) ?_
    replace H := H.2
    refine y_next (pc' := 321) (xst_of (i := (.lload 7)) (len := 2) rfl rfl (x_llo e7)) ?_
    refine y_next (pc' := 323) (xst_of (i := (.lload 11)) (len := 2) rfl rfl (x_llo e11)) ?_
    refine y_next (pc' := 324) (xst_of (i := .ldiv) (len := 1) rfl rfl (x_ldiv H.1)) ?_
    replace H := H.2
    refine z_cL (k := 151) (i := (.invokestatic 240)) (as := [.long (l5 / l9), .long (l5 / l11), .long (l7 / l9), .long (l7 / l11)]) (rest := [.long x2, .int 1, .int l2, .ref (g.2 (10, 0, 0) 0)]) rfl rfl rfl (H _ _ R rfl rfl rfl rfl) (fun x4 h Y3 R H => ?_)
    refine z_cN (k := 147) (i := (.invokevirtual 216)) (as := [.ref (g.2 (10, 0, 0) 0), .int l2, .int 1, .long x2, .long x4]) (rest := []) rfl rfl (x_callv rfl rfl (rc_ob R (rc_10 R) rfl) rfl rfl) (H _ _ R rfl rfl rfl rfl rfl) (fun h Y5 R H => ?_)
    refine y_next (pc' := 383) (xst_of (i := (.goto 53)) (len := 3) rfl rfl rfl) ?_
    exact H _ _ R e0 e1 e2 e3 e4 e5 e7 e9 e11
  · replace H := H.2 hc
    refine y_next (xst_of (i := (.if_icmp .ne 58)) (len := 3) rfl rfl (xt_icmp_ne (t := 333) rfl hc)) ?_
    refine y_next (pc' := 335) (xst_of (i := (.lload 9)) (len := 2) rfl rfl (x_llo e9)) ?_
    refine z_cL (k := 184) (i := (.invokestatic 243)) (as := [.long l9]) (rest := []) rfl rfl rfl (H _ _ R rfl) (fun x7 h Y6 R H => ?_)
    refine y_next (pc' := 340) (xst_of (i := (.lload 11)) (len := 2) rfl rfl (x_llo e11)) ?_
    refine z_cL (k := 184) (i := (.invokestatic 243)) (as := [.long l11]) (rest := [.long x7]) rfl rfl rfl (H _ _ R rfl) (fun x9 h Y8 R H => ?_)
    refine z_cL (k := 186) (i := (.invokestatic 230)) (as := [.long x7, .long x9]) (rest := []) rfl rfl rfl (H _ _ R rfl rfl) (fun x11 h Y10 R H => ?_)
    refine y_next (pc' := 347) (xst_of (i := (.lconst 1)) (len := 1) rfl rfl (x_lco (v := 1) (by decide))) ?_
    refine y_next (pc' := 348) (xst_of (i := .lsub) (len := 1) rfl rfl rfl) ?_
    refine z_ls (i := (.lstore 13)) (len := 2) (pc' := 350) (q := 13) rfl rfl rfl (by decide) (fun lv1 hlv => ?_)
    have e0 := xs2_A hlv e0 rfl rfl
    have e1 := xs2_A hlv e1 rfl rfl
    have e2 := xs2_A hlv e2 rfl rfl
    have e3 := xs2_A hlv e3 rfl rfl
    have e4 := xs2_A hlv e4 rfl rfl
    have e5 := xs2_A hlv e5 rfl rfl
    have e7 := xs2_A hlv e7 rfl rfl
    have e9 := xs2_A hlv e9 rfl rfl
    have e11 := xs2_A hlv e11 rfl rfl
    have e13 := xs2_N hlv
    clear hlv
    refine y_next (pc' := 351) (xst_of (i := (.aload_n 0)) (len := 1) rfl rfl (x_aloadV (xisV_r _) e0)) ?_
    refine y_next (pc' := 352) (xst_of (i := (.iload_n 2)) (len := 1) rfl rfl (x_ilo e2)) ?_
    refine y_next (pc' := 353) (xst_of (i := (.iconst 1)) (len := 1) rfl rfl (x_ico (v := 1) (by decide))) ?_
    refine y_next (pc' := 355) (xst_of (i := (.lload 5)) (len := 2) rfl rfl (x_llo e5)) ?_
    refine y_next (pc' := 356) (xst_of (i := (.lconst 0)) (len := 1) rfl rfl (x_lco (v := 0) (by decide))) ?_
    refine y_next (pc' := 357) (xst_of (i := .lcmp) (len := 1) rfl rfl rfl) ?_
    by_cases hc : 0 ≤ l5
    · replace H := H.1 hc
      refine y_next (xst_of (i := (.ifCond .ge 9)) (len := 3) rfl rfl (xt_if_ge (t := 366) rfl ((lg_cmp_ge l5 0).mpr hc))) ?_
      refine y_next (pc' := 367) (xst_of (i := (.lconst 0)) (len := 1) rfl rfl (x_lco (v := 0) (by decide))) ?_
      exact H _ _ R e0 e1 e2 e3 e4 e5 e7 e9 e11 e13
    · replace H := H.2 hc
      refine y_next (pc' := 360) (xst_of (i := (.ifCond .ge 9)) (len := 3) rfl rfl (xf_if_ge (t := 366) rfl (fun z => hc ((lg_cmp_ge l5 0).mp z)))) ?_
      refine y_next (pc' := 362) (xst_of (i := (.lload 13)) (len := 2) rfl rfl (x_llo e13)) ?_
      refine y_next (pc' := 363) (xst_of (i := .lneg) (len := 1) rfl rfl rfl) ?_
      refine y_next (pc' := 367) (xst_of (i := (.goto 4)) (len := 3) rfl rfl rfl) ?_
      exact H _ _ R e0 e1 e2 e3 e4 e5 e7 e9 e11 e13
set_option maxRecDepth 20000 in
theorem l_152_367 {V : xV} {g : xG} {Y : xW} {l1 : Int32} {l2 : Int32} {l3 : Int32} {l4 : Int32} {l5 : Int64} {l7 : Int64} {l9 : Int64} {l11 : Int64} {l13 : Int64} {s1 : Int32} {s2 : Int32} {s3 : Int64} {Q : xW → Prop} (H : ((l7 ≤ 0) → L_152_380 V g Y l1 l2 l3 l4 l5 l7 l9 l11 l13 s1 s2 s3 0 Q) ∧ (¬ (l7 ≤ 0) → L_152_380 V g Y l1 l2 l3 l4 l5 l7 l9 l11 l13 s1 s2 s3 l13 Q)) : L_152_367 V g Y l1 l2 l3 l4 l5 l7 l9 l11 l13 s1 s2 s3 Q := by
  intro h lv R e0 e1 e2 e3 e4 e5 e7 e9 e11 e13
  refine y_next (pc' := 369) (xst_of (i := (.lload 7)) (len := 2) rfl rfl (x_llo e7)) ?_
  refine y_next (pc' := 370) (xst_of (i := (.lconst 0)) (len := 1) rfl rfl (x_lco (v := 0) (by decide))) ?_
  refine y_next (pc' := 371) (xst_of (i := .lcmp) (len := 1) rfl rfl rfl) ?_
  by_cases hc : l7 ≤ 0
  · replace H := H.1 hc
    refine y_next (xst_of (i := (.ifCond .le 8)) (len := 3) rfl rfl (xt_if_le (t := 379) rfl ((lg_cmp_le l7 0).mpr hc))) ?_
    refine y_next (pc' := 380) (xst_of (i := (.lconst 0)) (len := 1) rfl rfl (x_lco (v := 0) (by decide))) ?_
    exact H _ _ R e0 e1 e2 e3 e4 e5 e7 e9 e11 e13
  · replace H := H.2 hc
    refine y_next (pc' := 374) (xst_of (i := (.ifCond .le 8)) (len := 3) rfl rfl (xf_if_le (t := 379) rfl (fun z => hc ((lg_cmp_le l7 0).mp z)))) ?_
    refine y_next (pc' := 376) (xst_of (i := (.lload 13)) (len := 2) rfl rfl (x_llo e13)) ?_
    refine y_next (pc' := 380) (xst_of (i := (.goto 4)) (len := 3) rfl rfl rfl) ?_
    exact H _ _ R e0 e1 e2 e3 e4 e5 e7 e9 e11 e13
set_option maxRecDepth 20000 in
theorem l_152_380 {V : xV} {g : xG} {Y : xW} {l1 : Int32} {l2 : Int32} {l3 : Int32} {l4 : Int32} {l5 : Int64} {l7 : Int64} {l9 : Int64} {l11 : Int64} {l13 : Int64} {s1 : Int32} {s2 : Int32} {s3 : Int64} {s4 : Int64} {Q : xW → Prop} (H : L_147_0 V g Y s1 s2 s3 s4 (fun Y1 => L_152_383 V g Y1 l1 l2 l3 l4 l5 l7 l9 l11 Q)) : L_152_380 V g Y l1 l2 l3 l4 l5 l7 l9 l11 l13 s1 s2 s3 s4 Q := by
  intro h lv R e0 e1 e2 e3 e4 e5 e7 e9 e11 e13
  refine z_cN (k := 147) (i := (.invokevirtual 216)) (as := [.ref (g.2 (10, 0, 0) 0), .int s1, .int s2, .long s3, .long s4]) (rest := []) rfl rfl (x_callv rfl rfl (rc_ob R (rc_10 R) rfl) rfl rfl) (H _ _ R rfl rfl rfl rfl rfl) (fun h Y1 R H => ?_)
  exact H _ _ R e0 e1 e2 e3 e4 e5 e7 e9 e11
set_option maxRecDepth 20000 in
theorem l_152_383 {V : xV} {g : xG} {Y : xW} {l1 : Int32} {l2 : Int32} {l3 : Int32} {l4 : Int32} {l5 : Int64} {l7 : Int64} {l9 : Int64} {l11 : Int64} {Q : xW → Prop} (H : Q Y) : L_152_383 V g Y l1 l2 l3 l4 l5 l7 l9 l11 Q := by
  intro h lv R e0 e1 e2 e3 e4 e5 e7 e9 e11
  exact y_ret (xst_of (i := .return_) (len := 1) rfl rfl rfl) ⟨_, rfl, R, H⟩
theorem l_153_0 {V : xV} {g : xG} {Y : xW} {l1 : Int32} {l2 : Int32} {l3 : Int32} {l4 : Int32} {Q : xW → Prop} (H : vp_in l3 8 ∧ (((fA Y (10, 0, 0) 24 (Int32.toNatClampNeg l3)) = 2) → vp_in l3 8 ∧ ((((Int32.toInt64 (fA Y (10, 0, 0) 25 (Int32.toNatClampNeg l3))) + (Int32.toInt64 l4)) < 0) → L_153_59 V g Y l1 l2 l3 l4 Q) ∧ (¬ (((Int32.toInt64 (fA Y (10, 0, 0) 25 (Int32.toNatClampNeg l3))) + (Int32.toInt64 l4)) < 0) → vp_in l3 8 ∧ vp_in (fI Y (10, 0, 0) 5) 24 ∧ ((((Int32.toInt64 (fA Y (10, 0, 0) 26 (Int32.toNatClampNeg l3))) + (Int32.toInt64 l4)) < (Int32.toInt64 (fA Y (10, 0, 0) 7 (Int32.toNatClampNeg (fI Y (10, 0, 0) 5))))) → L_153_64 V g Y l1 l2 l3 l4 Q) ∧ (¬ (((Int32.toInt64 (fA Y (10, 0, 0) 26 (Int32.toNatClampNeg l3))) + (Int32.toInt64 l4)) < (Int32.toInt64 (fA Y (10, 0, 0) 7 (Int32.toNatClampNeg (fI Y (10, 0, 0) 5))))) → L_153_59 V g Y l1 l2 l3 l4 Q))) ∧ (¬ ((fA Y (10, 0, 0) 24 (Int32.toNatClampNeg l3)) = 2) → L_141_0 V g Y 2 (fun Y1 => L_153_64 V g Y1 l1 l2 l3 l4 Q))) : L_153_0 V g Y l1 l2 l3 l4 Q := by
  intro h lv R e0 e1 e2 e3 e4
  refine y_next (pc' := 1) (xst_of (i := (.aload_n 0)) (len := 1) rfl rfl (x_aloadV (xisV_r _) e0)) ?_
  refine z_gA (t := (10, 0, 0)) (k := 24) rfl rfl rfl R (rc_10 R) ?_
  refine y_next (pc' := 5) (xst_of (i := (.iload_n 3)) (len := 1) rfl rfl (x_ilo e3)) ?_
  refine z_aI (t := (10, 0, 0)) (k := 24) (n := 8) (i := l3) rfl rfl R (rc_10 R) H.1 ?_
  replace H := H.2
  refine y_next (pc' := 7) (xst_of (i := (.iconst 2)) (len := 1) rfl rfl (x_ico (v := 2) (by decide))) ?_
  by_cases hc : (fA Y (10, 0, 0) 24 (Int32.toNatClampNeg l3)) = 2
  · replace H := H.1 hc
    refine y_next (xst_of (i := (.if_icmp .eq 11)) (len := 3) rfl rfl (xt_icmp_eq (t := 18) rfl hc)) ?_
    refine y_next (pc' := 19) (xst_of (i := (.aload_n 0)) (len := 1) rfl rfl (x_aloadV (xisV_r _) e0)) ?_
    refine z_gA (t := (10, 0, 0)) (k := 25) rfl rfl rfl R (rc_10 R) ?_
    refine y_next (pc' := 23) (xst_of (i := (.iload_n 3)) (len := 1) rfl rfl (x_ilo e3)) ?_
    refine z_aI (t := (10, 0, 0)) (k := 25) (n := 8) (i := l3) rfl rfl R (rc_10 R) H.1 ?_
    replace H := H.2
    refine y_next (pc' := 25) (xst_of (i := .i2l) (len := 1) rfl rfl rfl) ?_
    refine y_next (pc' := 27) (xst_of (i := (.iload 4)) (len := 2) rfl rfl (x_ilo e4)) ?_
    refine y_next (pc' := 28) (xst_of (i := .i2l) (len := 1) rfl rfl rfl) ?_
    refine y_next (pc' := 29) (xst_of (i := .ladd) (len := 1) rfl rfl rfl) ?_
    refine y_next (pc' := 30) (xst_of (i := (.lconst 0)) (len := 1) rfl rfl (x_lco (v := 0) (by decide))) ?_
    refine y_next (pc' := 31) (xst_of (i := .lcmp) (len := 1) rfl rfl rfl) ?_
    by_cases hc : ((Int32.toInt64 (fA Y (10, 0, 0) 25 (Int32.toNatClampNeg l3))) + (Int32.toInt64 l4)) < 0
    · replace H := H.1 hc
      refine y_next (xst_of (i := (.ifCond .lt 28)) (len := 3) rfl rfl (xt_if_lt (t := 59) rfl ((lg_cmp_lt ((Int32.toInt64 (fA Y (10, 0, 0) 25 (Int32.toNatClampNeg l3))) + (Int32.toInt64 l4)) 0).mpr hc))) ?_
      exact H _ _ R e0 e1 e2 e3 e4
    · replace H := H.2 hc
      refine y_next (pc' := 34) (xst_of (i := (.ifCond .lt 28)) (len := 3) rfl rfl (xf_if_lt (t := 59) rfl (fun z => hc ((lg_cmp_lt ((Int32.toInt64 (fA Y (10, 0, 0) 25 (Int32.toNatClampNeg l3))) + (Int32.toInt64 l4)) 0).mp z)))) ?_
      refine y_next (pc' := 35) (xst_of (i := (.aload_n 0)) (len := 1) rfl rfl (x_aloadV (xisV_r _) e0)) ?_
      refine z_gA (t := (10, 0, 0)) (k := 26) rfl rfl rfl R (rc_10 R) ?_
      refine y_next (pc' := 39) (xst_of (i := (.iload_n 3)) (len := 1) rfl rfl (x_ilo e3)) ?_
      refine z_aI (t := (10, 0, 0)) (k := 26) (n := 8) (i := l3) rfl rfl R (rc_10 R) H.1 ?_
      replace H := H.2
      refine y_next (pc' := 41) (xst_of (i := .i2l) (len := 1) rfl rfl rfl) ?_
      refine y_next (pc' := 43) (xst_of (i := (.iload 4)) (len := 2) rfl rfl (x_ilo e4)) ?_
      refine y_next (pc' := 44) (xst_of (i := .i2l) (len := 1) rfl rfl rfl) ?_
      refine y_next (pc' := 45) (xst_of (i := .ladd) (len := 1) rfl rfl rfl) ?_
      refine y_next (pc' := 46) (xst_of (i := (.aload_n 0)) (len := 1) rfl rfl (x_aloadV (xisV_r _) e0)) ?_
      refine z_gA (t := (10, 0, 0)) (k := 7) rfl rfl rfl R (rc_10 R) ?_
      refine y_next (pc' := 50) (xst_of (i := (.aload_n 0)) (len := 1) rfl rfl (x_aloadV (xisV_r _) e0)) ?_
      refine z_gI (t := (10, 0, 0)) (k := 5) rfl rfl rfl R (rc_10 R) ?_
      refine z_aI (t := (10, 0, 0)) (k := 7) (n := 24) (i := (fI Y (10, 0, 0) 5)) rfl rfl R (rc_10 R) H.1 ?_
      replace H := H.2
      refine y_next (pc' := 55) (xst_of (i := .i2l) (len := 1) rfl rfl rfl) ?_
      refine y_next (pc' := 56) (xst_of (i := .lcmp) (len := 1) rfl rfl rfl) ?_
      by_cases hc : ((Int32.toInt64 (fA Y (10, 0, 0) 26 (Int32.toNatClampNeg l3))) + (Int32.toInt64 l4)) < (Int32.toInt64 (fA Y (10, 0, 0) 7 (Int32.toNatClampNeg (fI Y (10, 0, 0) 5))))
      · replace H := H.1 hc
        refine y_next (xst_of (i := (.ifCond .lt 8)) (len := 3) rfl rfl (xt_if_lt (t := 64) rfl ((lg_cmp_lt ((Int32.toInt64 (fA Y (10, 0, 0) 26 (Int32.toNatClampNeg l3))) + (Int32.toInt64 l4)) (Int32.toInt64 (fA Y (10, 0, 0) 7 (Int32.toNatClampNeg (fI Y (10, 0, 0) 5))))).mpr hc))) ?_
        exact H _ _ R e0 e1 e2 e3 e4
      · replace H := H.2 hc
        refine y_next (pc' := 59) (xst_of (i := (.ifCond .lt 8)) (len := 3) rfl rfl (xf_if_lt (t := 64) rfl (fun z => hc ((lg_cmp_lt ((Int32.toInt64 (fA Y (10, 0, 0) 26 (Int32.toNatClampNeg l3))) + (Int32.toInt64 l4)) (Int32.toInt64 (fA Y (10, 0, 0) 7 (Int32.toNatClampNeg (fI Y (10, 0, 0) 5))))).mp z)))) ?_
        exact H _ _ R e0 e1 e2 e3 e4
  · replace H := H.2 hc
    refine y_next (pc' := 10) (xst_of (i := (.if_icmp .eq 11)) (len := 3) rfl rfl (xf_icmp_eq (t := 18) rfl hc)) ?_
    refine y_next (pc' := 11) (xst_of (i := (.aload_n 0)) (len := 1) rfl rfl (x_aloadV (xisV_r _) e0)) ?_
    refine y_next (pc' := 12) (xst_of (i := (.iconst 2)) (len := 1) rfl rfl (x_ico (v := 2) (by decide))) ?_
    refine z_cN (k := 141) (i := (.invokevirtual 187)) (as := [.ref (g.2 (10, 0, 0) 0), .int 2]) (rest := []) rfl rfl (x_callv rfl rfl (rc_ob R (rc_10 R) rfl) rfl rfl) (H _ _ R rfl rfl) (fun h Y1 R H => ?_)
    refine y_next (pc' := 64) (xst_of (i := (.goto 49)) (len := 3) rfl rfl rfl) ?_
    exact H _ _ R e0 e1 e2 e3 e4
theorem l_153_59 {V : xV} {g : xG} {Y : xW} {l1 : Int32} {l2 : Int32} {l3 : Int32} {l4 : Int32} {Q : xW → Prop} (H : L_141_0 V g Y 3 (fun Y1 => L_153_64 V g Y1 l1 l2 l3 l4 Q)) : L_153_59 V g Y l1 l2 l3 l4 Q := by
  intro h lv R e0 e1 e2 e3 e4
  refine y_next (pc' := 60) (xst_of (i := (.aload_n 0)) (len := 1) rfl rfl (x_aloadV (xisV_r _) e0)) ?_
  refine y_next (pc' := 61) (xst_of (i := (.iconst 3)) (len := 1) rfl rfl (x_ico (v := 3) (by decide))) ?_
  refine z_cN (k := 141) (i := (.invokevirtual 187)) (as := [.ref (g.2 (10, 0, 0) 0), .int 3]) (rest := []) rfl rfl (x_callv rfl rfl (rc_ob R (rc_10 R) rfl) rfl rfl) (H _ _ R rfl rfl) (fun h Y1 R H => ?_)
  exact H _ _ R e0 e1 e2 e3 e4
theorem l_153_64 {V : xV} {g : xG} {Y : xW} {l1 : Int32} {l2 : Int32} {l3 : Int32} {l4 : Int32} {Q : xW → Prop} (H : (((fI Y (10, 0, 0) 29) = 0) → ((l1 = 13) → L_147_0 V g Y l2 1 (-2147483648) 2147483647 (fun Y1 => L_153_89 V g Y1 l1 l2 l3 l4 Q)) ∧ (¬ (l1 = 13) → L_153_89 V g Y l1 l2 l3 l4 Q)) ∧ (¬ ((fI Y (10, 0, 0) 29) = 0) → L_153_89 V g Y l1 l2 l3 l4 Q)) : L_153_64 V g Y l1 l2 l3 l4 Q := by
  intro h lv R e0 e1 e2 e3 e4
  refine y_next (pc' := 65) (xst_of (i := (.aload_n 0)) (len := 1) rfl rfl (x_aloadV (xisV_r _) e0)) ?_
  refine z_gI (t := (10, 0, 0)) (k := 29) rfl rfl rfl R (rc_10 R) ?_
  by_cases hc : (fI Y (10, 0, 0) 29) = 0
  · replace H := H.1 hc
    refine y_next (pc' := 71) (xst_of (i := (.ifCond .ne 21)) (len := 3) rfl rfl (xf_if_ne (t := 89) rfl (fun z => z hc))) ?_
    refine y_next (pc' := 72) (xst_of (i := (.iload_n 1)) (len := 1) rfl rfl (x_ilo e1)) ?_
    refine y_next (pc' := 74) (xst_of (i := (.bipush 13)) (len := 2) rfl rfl (x_bip (v := 13) (by decide))) ?_
    by_cases hc : l1 = 13
    · replace H := H.1 hc
      refine y_next (pc' := 77) (xst_of (i := (.if_icmp .ne 15)) (len := 3) rfl rfl (xf_icmp_ne (t := 89) rfl (fun z => z hc))) ?_
      refine y_next (pc' := 78) (xst_of (i := (.aload_n 0)) (len := 1) rfl rfl (x_aloadV (xisV_r _) e0)) ?_
      refine y_next (pc' := 79) (xst_of (i := (.iload_n 2)) (len := 1) rfl rfl (x_ilo e2)) ?_
      refine y_next (pc' := 80) (xst_of (i := (.iconst 1)) (len := 1) rfl rfl (x_ico (v := 1) (by decide))) ?_
      refine y_next (pc' := 83) (xst_of (i := (.ldc2_w 206)) (len := 3) rfl rfl rfl) ?_
      refine y_next (pc' := 86) (xst_of (i := (.ldc2_w 208)) (len := 3) rfl rfl rfl) ?_
      refine z_cN (k := 147) (i := (.invokevirtual 216)) (as := [.ref (g.2 (10, 0, 0) 0), .int l2, .int 1, .long (-2147483648), .long 2147483647]) (rest := []) rfl rfl (x_callv rfl rfl (rc_ob R (rc_10 R) rfl) rfl rfl) (H _ _ R rfl rfl rfl rfl rfl) (fun h Y1 R H => ?_)
      exact H _ _ R e0 e1 e2 e3 e4
    · replace H := H.2 hc
      refine y_next (xst_of (i := (.if_icmp .ne 15)) (len := 3) rfl rfl (xt_icmp_ne (t := 89) rfl hc)) ?_
      exact H _ _ R e0 e1 e2 e3 e4
  · replace H := H.2 hc
    refine y_next (xst_of (i := (.ifCond .ne 21)) (len := 3) rfl rfl (xt_if_ne (t := 89) rfl hc)) ?_
    exact H _ _ R e0 e1 e2 e3 e4
theorem l_153_89 {V : xV} {g : xG} {Y : xW} {l1 : Int32} {l2 : Int32} {l3 : Int32} {l4 : Int32} {Q : xW → Prop} (H : Q Y) : L_153_89 V g Y l1 l2 l3 l4 Q := by
  intro h lv R e0 e1 e2 e3 e4
  exact y_ret (xst_of (i := .return_) (len := 1) rfl rfl rfl) ⟨_, rfl, R, H⟩
theorem l_154_0 {V : xV} {g : xG} {Y : xW} {l1 : Int32} {l2 : Int32} {l3 : Int32} {l4 : Int32} {Q : xW → Prop} (H : ((l2 = l3) → ((l1 = 17) → L_145_0 V g Y l4 (fun Y1 => L_154_24 V g Y1 l1 l2 l3 l4 Q)) ∧ (¬ (l1 = 17) → L_146_0 V g Y  (fun Y2 => L_154_24 V g Y2 l1 l2 l3 l4 Q))) ∧ (¬ (l2 = l3) → vp_in l2 8 ∧ vp_in l2 8 ∧ vp_in l3 8 ∧ vp_in l3 8 ∧ ((l1 = 16) → L_188_0 V g Y (Int32.toInt64 (fA Y (10, 0, 0) 26 (Int32.toNatClampNeg l2))) ((Int32.toInt64 (fA Y (10, 0, 0) 26 (Int32.toNatClampNeg l3))) - 1) (fun x4 Y3 => L_186_0 V g Y3 (Int32.toInt64 (fA Y (10, 0, 0) 25 (Int32.toNatClampNeg l3))) ((Int32.toInt64 (fA Y (10, 0, 0) 25 (Int32.toNatClampNeg l2))) + 1) (fun x6 Y5 => L_155_0 V g Y5 l2 l3 (Int32.toInt64 (fA Y (10, 0, 0) 25 (Int32.toNatClampNeg l2))) x4 x6 (Int32.toInt64 (fA Y (10, 0, 0) 26 (Int32.toNatClampNeg l3))) l4 (fun Y7 => vp_in l2 8 ∧ ∀ Y8, Y8 = uA Y7 (10, 0, 0) 25 (Int32.toNatClampNeg l2) (fA Y (10, 0, 0) 25 (Int32.toNatClampNeg l2)) → vp_in l2 8 ∧ ∀ Y9, Y9 = uA Y8 (10, 0, 0) 26 (Int32.toNatClampNeg l2) (fA Y (10, 0, 0) 26 (Int32.toNatClampNeg l2)) → vp_in l3 8 ∧ ∀ Y10, Y10 = uA Y9 (10, 0, 0) 25 (Int32.toNatClampNeg l3) (fA Y (10, 0, 0) 25 (Int32.toNatClampNeg l3)) → vp_in l3 8 ∧ ∀ Y11, Y11 = uA Y10 (10, 0, 0) 26 (Int32.toNatClampNeg l3) (fA Y (10, 0, 0) 26 (Int32.toNatClampNeg l3)) → L_185_0 V g Y11 (fA Y (10, 0, 0) 25 (Int32.toNatClampNeg l2)) (fA Y (10, 0, 0) 25 (Int32.toNatClampNeg l3)) (fun x13 Y12 => L_187_0 V g Y12 (fA Y (10, 0, 0) 26 (Int32.toNatClampNeg l3)) (fA Y (10, 0, 0) 26 (Int32.toNatClampNeg l2)) (fun x15 Y14 => L_155_0 V g Y14 l2 l3 (Int32.toInt64 x13) (Int32.toInt64 (fA Y (10, 0, 0) 26 (Int32.toNatClampNeg l2))) (Int32.toInt64 (fA Y (10, 0, 0) 25 (Int32.toNatClampNeg l3))) (Int32.toInt64 x15) (-1) (fun Y16 => L_154_254 V g Y16 l1 l2 l3 l4 (fA Y (10, 0, 0) 25 (Int32.toNatClampNeg l2)) (fA Y (10, 0, 0) 26 (Int32.toNatClampNeg l2)) (fA Y (10, 0, 0) 25 (Int32.toNatClampNeg l3)) (fA Y (10, 0, 0) 26 (Int32.toNatClampNeg l3)) Q))))))) ∧ (¬ (l1 = 16) → L_185_0 V g Y (fA Y (10, 0, 0) 25 (Int32.toNatClampNeg l2)) (fA Y (10, 0, 0) 25 (Int32.toNatClampNeg l3)) (fun x18 Y17 => L_187_0 V g Y17 (fA Y (10, 0, 0) 26 (Int32.toNatClampNeg l2)) (fA Y (10, 0, 0) 26 (Int32.toNatClampNeg l3)) (fun x20 Y19 => L_185_0 V g Y19 (fA Y (10, 0, 0) 25 (Int32.toNatClampNeg l2)) (fA Y (10, 0, 0) 25 (Int32.toNatClampNeg l3)) (fun x22 Y21 => L_187_0 V g Y21 (fA Y (10, 0, 0) 26 (Int32.toNatClampNeg l2)) (fA Y (10, 0, 0) 26 (Int32.toNatClampNeg l3)) (fun x24 Y23 => L_155_0 V g Y23 l2 l3 (Int32.toInt64 x18) (Int32.toInt64 x20) (Int32.toInt64 x22) (Int32.toInt64 x24) l4 (fun Y25 => vp_in l2 8 ∧ ∀ Y26, Y26 = uA Y25 (10, 0, 0) 25 (Int32.toNatClampNeg l2) (fA Y (10, 0, 0) 25 (Int32.toNatClampNeg l2)) → vp_in l2 8 ∧ ∀ Y27, Y27 = uA Y26 (10, 0, 0) 26 (Int32.toNatClampNeg l2) (fA Y (10, 0, 0) 26 (Int32.toNatClampNeg l2)) → vp_in l3 8 ∧ ∀ Y28, Y28 = uA Y27 (10, 0, 0) 25 (Int32.toNatClampNeg l3) (fA Y (10, 0, 0) 25 (Int32.toNatClampNeg l3)) → vp_in l3 8 ∧ ∀ Y29, Y29 = uA Y28 (10, 0, 0) 26 (Int32.toNatClampNeg l3) (fA Y (10, 0, 0) 26 (Int32.toNatClampNeg l3)) → L_146_0 V g Y29  (fun Y30 => L_154_254 V g Y30 l1 l2 l3 l4 (fA Y (10, 0, 0) 25 (Int32.toNatClampNeg l2)) (fA Y (10, 0, 0) 26 (Int32.toNatClampNeg l2)) (fA Y (10, 0, 0) 25 (Int32.toNatClampNeg l3)) (fA Y (10, 0, 0) 26 (Int32.toNatClampNeg l3)) Q))))))))) : L_154_0 V g Y l1 l2 l3 l4 Q := by
  intro h lv R e0 e1 e2 e3 e4
  refine y_next (pc' := 1) (xst_of (i := (.iload_n 2)) (len := 1) rfl rfl (x_ilo e2)) ?_
  refine y_next (pc' := 2) (xst_of (i := (.iload_n 3)) (len := 1) rfl rfl (x_ilo e3)) ?_
  by_cases hc : l2 = l3
  · replace H := H.1 hc
    refine y_next (pc' := 5) (xst_of (i := (.if_icmp .ne 38)) (len := 3) rfl rfl (xf_icmp_ne (t := 40) rfl (fun z => z hc))) ?_
    refine y_next (pc' := 6) (xst_of (i := (.iload_n 1)) (len := 1) rfl rfl (x_ilo e1)) ?_
    refine y_next (pc' := 8) (xst_of (i := (.bipush 17)) (len := 2) rfl rfl (x_bip (v := 17) (by decide))) ?_
    by_cases hc : l1 = 17
    · replace H := H.1 hc
      refine y_next (pc' := 11) (xst_of (i := (.if_icmp .ne 12)) (len := 3) rfl rfl (xf_icmp_ne (t := 20) rfl (fun z => z hc))) ?_
      refine y_next (pc' := 12) (xst_of (i := (.aload_n 0)) (len := 1) rfl rfl (x_aloadV (xisV_r _) e0)) ?_
      refine y_next (pc' := 14) (xst_of (i := (.iload 4)) (len := 2) rfl rfl (x_ilo e4)) ?_
      refine z_cN (k := 145) (i := (.invokevirtual 201)) (as := [.ref (g.2 (10, 0, 0) 0), .int l4]) (rest := []) rfl rfl (x_callv rfl rfl (rc_ob R (rc_10 R) rfl) rfl rfl) (H _ _ R rfl rfl) (fun h Y1 R H => ?_)
      refine y_next (pc' := 24) (xst_of (i := (.goto 7)) (len := 3) rfl rfl rfl) ?_
      exact H _ _ R e0 e1 e2 e3 e4
    · replace H := H.2 hc
      refine y_next (xst_of (i := (.if_icmp .ne 12)) (len := 3) rfl rfl (xt_icmp_ne (t := 20) rfl hc)) ?_
      refine y_next (pc' := 21) (xst_of (i := (.aload_n 0)) (len := 1) rfl rfl (x_aloadV (xisV_r _) e0)) ?_
      refine z_cN (k := 146) (i := (.invokevirtual 247)) (as := [.ref (g.2 (10, 0, 0) 0)]) (rest := []) rfl rfl (x_callv rfl rfl (rc_ob R (rc_10 R) rfl) rfl rfl) (H _ _ R rfl) (fun h Y2 R H => ?_)
      exact H _ _ R e0 e1 e2 e3 e4
  · replace H := H.2 hc
    refine y_next (xst_of (i := (.if_icmp .ne 38)) (len := 3) rfl rfl (xt_icmp_ne (t := 40) rfl hc)) ?_
    refine y_next (pc' := 41) (xst_of (i := (.aload_n 0)) (len := 1) rfl rfl (x_aloadV (xisV_r _) e0)) ?_
    refine z_gA (t := (10, 0, 0)) (k := 25) rfl rfl rfl R (rc_10 R) ?_
    refine y_next (pc' := 45) (xst_of (i := (.iload_n 2)) (len := 1) rfl rfl (x_ilo e2)) ?_
    refine z_aI (t := (10, 0, 0)) (k := 25) (n := 8) (i := l2) rfl rfl R (rc_10 R) H.1 ?_
    replace H := H.2
    refine z_is (i := (.istore 5)) (len := 2) (pc' := 48) (q := 5) rfl rfl rfl (by decide) (fun lv1 hlv => ?_)
    have e0 := xs1_A hlv e0 rfl rfl
    have e1 := xs1_A hlv e1 rfl rfl
    have e2 := xs1_A hlv e2 rfl rfl
    have e3 := xs1_A hlv e3 rfl rfl
    have e4 := xs1_B hlv e4 rfl rfl
    have e5 := xs1_N hlv
    clear hlv
    refine y_next (pc' := 49) (xst_of (i := (.aload_n 0)) (len := 1) rfl rfl (x_aloadV (xisV_r _) e0)) ?_
    refine z_gA (t := (10, 0, 0)) (k := 26) rfl rfl rfl R (rc_10 R) ?_
    refine y_next (pc' := 53) (xst_of (i := (.iload_n 2)) (len := 1) rfl rfl (x_ilo e2)) ?_
    refine z_aI (t := (10, 0, 0)) (k := 26) (n := 8) (i := l2) rfl rfl R (rc_10 R) H.1 ?_
    replace H := H.2
    refine z_is (i := (.istore 6)) (len := 2) (pc' := 56) (q := 6) rfl rfl rfl (by decide) (fun lv2 hlv => ?_)
    have e0 := xs1_A hlv e0 rfl rfl
    have e1 := xs1_A hlv e1 rfl rfl
    have e2 := xs1_A hlv e2 rfl rfl
    have e3 := xs1_A hlv e3 rfl rfl
    have e4 := xs1_A hlv e4 rfl rfl
    have e5 := xs1_B hlv e5 rfl rfl
    have e6 := xs1_N hlv
    clear hlv
    refine y_next (pc' := 57) (xst_of (i := (.aload_n 0)) (len := 1) rfl rfl (x_aloadV (xisV_r _) e0)) ?_
    refine z_gA (t := (10, 0, 0)) (k := 25) rfl rfl rfl R (rc_10 R) ?_
    refine y_next (pc' := 61) (xst_of (i := (.iload_n 3)) (len := 1) rfl rfl (x_ilo e3)) ?_
    refine z_aI (t := (10, 0, 0)) (k := 25) (n := 8) (i := l3) rfl rfl R (rc_10 R) H.1 ?_
    replace H := H.2
    refine z_is (i := (.istore 7)) (len := 2) (pc' := 64) (q := 7) rfl rfl rfl (by decide) (fun lv3 hlv => ?_)
    have e0 := xs1_A hlv e0 rfl rfl
    have e1 := xs1_A hlv e1 rfl rfl
    have e2 := xs1_A hlv e2 rfl rfl
    have e3 := xs1_A hlv e3 rfl rfl
    have e4 := xs1_A hlv e4 rfl rfl
    have e5 := xs1_A hlv e5 rfl rfl
    have e6 := xs1_B hlv e6 rfl rfl
    have e7 := xs1_N hlv
    clear hlv
    refine y_next (pc' := 65) (xst_of (i := (.aload_n 0)) (len := 1) rfl rfl (x_aloadV (xisV_r _) e0)) ?_
    refine z_gA (t := (10, 0, 0)) (k := 26) rfl rfl rfl R (rc_10 R) ?_
    refine y_next (pc' := 69) (xst_of (i := (.iload_n 3)) (len := 1) rfl rfl (x_ilo e3)) ?_
    refine z_aI (t := (10, 0, 0)) (k := 26) (n := 8) (i := l3) rfl rfl R (rc_10 R) H.1 ?_
    replace H := H.2
    refine z_is (i := (.istore 8)) (len := 2) (pc' := 72) (q := 8) rfl rfl rfl (by decide) (fun lv4 hlv => ?_)
    have e0 := xs1_A hlv e0 rfl rfl
    have e1 := xs1_A hlv e1 rfl rfl
    have e2 := xs1_A hlv e2 rfl rfl
    have e3 := xs1_A hlv e3 rfl rfl
    have e4 := xs1_A hlv e4 rfl rfl
    have e5 := xs1_A hlv e5 rfl rfl
    have e6 := xs1_A hlv e6 rfl rfl
    have e7 := xs1_B hlv e7 rfl rfl
    have e8 := xs1_N hlv
    clear hlv
    refine y_next (pc' := 73) (xst_of (i := (.iload_n 1)) (len := 1) rfl rfl (x_ilo e1)) ?_
    refine y_next (pc' := 75) (xst_of (i := (.bipush 16)) (len := 2) rfl rfl (x_bip (v := 16) (by decide))) ?_
    by_cases hc : l1 = 16
    · replace H := H.1 hc
      refine y_next (pc' := 78) (xst_of (i := (.if_icmp .ne 103)) (len := 3) rfl rfl (xf_icmp_ne (t := 178) rfl (fun z => z hc))) ?_
      refine y_next (pc' := 79) (xst_of (i := (.aload_n 0)) (len := 1) rfl rfl (x_aloadV (xisV_r _) e0)) ?_
      refine y_next (pc' := 80) (xst_of (i := (.iload_n 2)) (len := 1) rfl rfl (x_ilo e2)) ?_
      refine y_next (pc' := 81) (xst_of (i := (.iload_n 3)) (len := 1) rfl rfl (x_ilo e3)) ?_
      refine y_next (pc' := 83) (xst_of (i := (.iload 5)) (len := 2) rfl rfl (x_ilo e5)) ?_
      refine y_next (pc' := 84) (xst_of (i := .i2l) (len := 1) rfl rfl rfl) ?_
      refine y_next (pc' := 86) (xst_of (i := (.iload 6)) (len := 2) rfl rfl (x_ilo e6)) ?_
      refine y_next (pc' := 87) (xst_of (i := .i2l) (len := 1) rfl rfl rfl) ?_
      refine y_next (pc' := 89) (xst_of (i := (.iload 8)) (len := 2) rfl rfl (x_ilo e8)) ?_
      refine y_next (pc' := 90) (xst_of (i := .i2l) (len := 1) rfl rfl rfl) ?_
      refine y_next (pc' := 91) (xst_of (i := (.lconst 1)) (len := 1) rfl rfl (x_lco (v := 1) (by decide))) ?_
      refine y_next (pc' := 92) (xst_of (i := .lsub) (len := 1) rfl rfl rfl) ?_
      refine z_cL (k := 188) (i := (.invokestatic 224)) (as := [.long (Int32.toInt64 (fA Y (10, 0, 0) 26 (Int32.toNatClampNeg l2))), .long ((Int32.toInt64 (fA Y (10, 0, 0) 26 (Int32.toNatClampNeg l3))) - 1)]) (rest := [.long (Int32.toInt64 (fA Y (10, 0, 0) 25 (Int32.toNatClampNeg l2))), .int l3, .int l2, .ref (g.2 (10, 0, 0) 0)]) rfl rfl rfl (H _ _ R rfl rfl) (fun x4 h Y3 R H => ?_)
      refine y_next (pc' := 97) (xst_of (i := (.iload 7)) (len := 2) rfl rfl (x_ilo e7)) ?_
      refine y_next (pc' := 98) (xst_of (i := .i2l) (len := 1) rfl rfl rfl) ?_
      refine y_next (pc' := 100) (xst_of (i := (.iload 5)) (len := 2) rfl rfl (x_ilo e5)) ?_
      refine y_next (pc' := 101) (xst_of (i := .i2l) (len := 1) rfl rfl rfl) ?_
      refine y_next (pc' := 102) (xst_of (i := (.lconst 1)) (len := 1) rfl rfl (x_lco (v := 1) (by decide))) ?_
      refine y_next (pc' := 103) (xst_of (i := .ladd) (len := 1) rfl rfl rfl) ?_
      refine z_cL (k := 186) (i := (.invokestatic 230)) (as := [.long (Int32.toInt64 (fA Y (10, 0, 0) 25 (Int32.toNatClampNeg l3))), .long ((Int32.toInt64 (fA Y (10, 0, 0) 25 (Int32.toNatClampNeg l2))) + 1)]) (rest := [.long x4, .long (Int32.toInt64 (fA Y (10, 0, 0) 25 (Int32.toNatClampNeg l2))), .int l3, .int l2, .ref (g.2 (10, 0, 0) 0)]) rfl rfl rfl (H _ _ R rfl rfl) (fun x6 h Y5 R H => ?_)
      refine y_next (pc' := 108) (xst_of (i := (.iload 8)) (len := 2) rfl rfl (x_ilo e8)) ?_
      refine y_next (pc' := 109) (xst_of (i := .i2l) (len := 1) rfl rfl rfl) ?_
      refine y_next (pc' := 111) (xst_of (i := (.iload 4)) (len := 2) rfl rfl (x_ilo e4)) ?_
      refine z_cN (k := 155) (i := (.invokevirtual 250)) (as := [.ref (g.2 (10, 0, 0) 0), .int l2, .int l3, .long (Int32.toInt64 (fA Y (10, 0, 0) 25 (Int32.toNatClampNeg l2))), .long x4, .long x6, .long (Int32.toInt64 (fA Y (10, 0, 0) 26 (Int32.toNatClampNeg l3))), .int l4]) (rest := []) rfl rfl (x_callv rfl rfl (rc_ob R (rc_10 R) rfl) rfl rfl) (H _ _ R rfl rfl rfl rfl rfl rfl rfl rfl) (fun h Y7 R H => ?_)
      refine y_next (pc' := 115) (xst_of (i := (.aload_n 0)) (len := 1) rfl rfl (x_aloadV (xisV_r _) e0)) ?_
      refine z_gA (t := (10, 0, 0)) (k := 25) rfl rfl rfl R (rc_10 R) ?_
      refine y_next (pc' := 119) (xst_of (i := (.iload_n 2)) (len := 1) rfl rfl (x_ilo e2)) ?_
      refine y_next (pc' := 121) (xst_of (i := (.iload 5)) (len := 2) rfl rfl (x_ilo e5)) ?_
      refine z_sI (t := (10, 0, 0)) (k := 25) (n := 8) (i := l2) rfl rfl R (rc_10 R) H.1 (fun h Y8 hY R => ?_)
      replace H := H.2 Y8 hY
      clear hY
      refine y_next (pc' := 123) (xst_of (i := (.aload_n 0)) (len := 1) rfl rfl (x_aloadV (xisV_r _) e0)) ?_
      refine z_gA (t := (10, 0, 0)) (k := 26) rfl rfl rfl R (rc_10 R) ?_
      refine y_next (pc' := 127) (xst_of (i := (.iload_n 2)) (len := 1) rfl rfl (x_ilo e2)) ?_
      refine y_next (pc' := 129) (xst_of (i := (.iload 6)) (len := 2) rfl rfl (x_ilo e6)) ?_
      refine z_sI (t := (10, 0, 0)) (k := 26) (n := 8) (i := l2) rfl rfl R (rc_10 R) H.1 (fun h Y9 hY R => ?_)
      replace H := H.2 Y9 hY
      clear hY
      refine y_next (pc' := 131) (xst_of (i := (.aload_n 0)) (len := 1) rfl rfl (x_aloadV (xisV_r _) e0)) ?_
      refine z_gA (t := (10, 0, 0)) (k := 25) rfl rfl rfl R (rc_10 R) ?_
      refine y_next (pc' := 135) (xst_of (i := (.iload_n 3)) (len := 1) rfl rfl (x_ilo e3)) ?_
      refine y_next (pc' := 137) (xst_of (i := (.iload 7)) (len := 2) rfl rfl (x_ilo e7)) ?_
      refine z_sI (t := (10, 0, 0)) (k := 25) (n := 8) (i := l3) rfl rfl R (rc_10 R) H.1 (fun h Y10 hY R => ?_)
      replace H := H.2 Y10 hY
      clear hY
      refine y_next (pc' := 139) (xst_of (i := (.aload_n 0)) (len := 1) rfl rfl (x_aloadV (xisV_r _) e0)) ?_
      refine z_gA (t := (10, 0, 0)) (k := 26) rfl rfl rfl R (rc_10 R) ?_
      refine y_next (pc' := 143) (xst_of (i := (.iload_n 3)) (len := 1) rfl rfl (x_ilo e3)) ?_
      refine y_next (pc' := 145) (xst_of (i := (.iload 8)) (len := 2) rfl rfl (x_ilo e8)) ?_
      refine z_sI (t := (10, 0, 0)) (k := 26) (n := 8) (i := l3) rfl rfl R (rc_10 R) H.1 (fun h Y11 hY R => ?_)
      replace H := H.2 Y11 hY
      clear hY
      refine y_next (pc' := 147) (xst_of (i := (.aload_n 0)) (len := 1) rfl rfl (x_aloadV (xisV_r _) e0)) ?_
      refine y_next (pc' := 148) (xst_of (i := (.iload_n 2)) (len := 1) rfl rfl (x_ilo e2)) ?_
      refine y_next (pc' := 149) (xst_of (i := (.iload_n 3)) (len := 1) rfl rfl (x_ilo e3)) ?_
      refine y_next (pc' := 151) (xst_of (i := (.iload 5)) (len := 2) rfl rfl (x_ilo e5)) ?_
      refine y_next (pc' := 153) (xst_of (i := (.iload 7)) (len := 2) rfl rfl (x_ilo e7)) ?_
      refine z_cI (k := 185) (i := (.invokestatic 254)) (as := [.int (fA Y (10, 0, 0) 25 (Int32.toNatClampNeg l2)), .int (fA Y (10, 0, 0) 25 (Int32.toNatClampNeg l3))]) (rest := [.int l3, .int l2, .ref (g.2 (10, 0, 0) 0)]) rfl rfl rfl (H _ _ R rfl rfl) (fun x13 h Y12 R H => ?_)
      refine y_next (pc' := 157) (xst_of (i := .i2l) (len := 1) rfl rfl rfl) ?_
      refine y_next (pc' := 159) (xst_of (i := (.iload 6)) (len := 2) rfl rfl (x_ilo e6)) ?_
      refine y_next (pc' := 160) (xst_of (i := .i2l) (len := 1) rfl rfl rfl) ?_
      refine y_next (pc' := 162) (xst_of (i := (.iload 7)) (len := 2) rfl rfl (x_ilo e7)) ?_
      refine y_next (pc' := 163) (xst_of (i := .i2l) (len := 1) rfl rfl rfl) ?_
      refine y_next (pc' := 165) (xst_of (i := (.iload 8)) (len := 2) rfl rfl (x_ilo e8)) ?_
      refine y_next (pc' := 167) (xst_of (i := (.iload 6)) (len := 2) rfl rfl (x_ilo e6)) ?_
      refine z_cI (k := 187) (i := (.invokestatic 257)) (as := [.int (fA Y (10, 0, 0) 26 (Int32.toNatClampNeg l3)), .int (fA Y (10, 0, 0) 26 (Int32.toNatClampNeg l2))]) (rest := [.long (Int32.toInt64 (fA Y (10, 0, 0) 25 (Int32.toNatClampNeg l3))), .long (Int32.toInt64 (fA Y (10, 0, 0) 26 (Int32.toNatClampNeg l2))), .long (Int32.toInt64 x13), .int l3, .int l2, .ref (g.2 (10, 0, 0) 0)]) rfl rfl rfl (H _ _ R rfl rfl) (fun x15 h Y14 R H => ?_)
      refine y_next (pc' := 171) (xst_of (i := .i2l) (len := 1) rfl rfl rfl) ?_
      refine y_next (pc' := 172) (xst_of (i := (.iconst (-1))) (len := 1) rfl rfl (x_ico (v := (-1)) (by decide))) ?_
      refine z_cN (k := 155) (i := (.invokevirtual 250)) (as := [.ref (g.2 (10, 0, 0) 0), .int l2, .int l3, .long (Int32.toInt64 x13), .long (Int32.toInt64 (fA Y (10, 0, 0) 26 (Int32.toNatClampNeg l2))), .long (Int32.toInt64 (fA Y (10, 0, 0) 25 (Int32.toNatClampNeg l3))), .long (Int32.toInt64 x15), .int (-1)]) (rest := []) rfl rfl (x_callv rfl rfl (rc_ob R (rc_10 R) rfl) rfl rfl) (H _ _ R rfl rfl rfl rfl rfl rfl rfl rfl) (fun h Y16 R H => ?_)
      refine y_next (pc' := 254) (xst_of (i := (.goto 79)) (len := 3) rfl rfl rfl) ?_
      exact H _ _ R e0 e1 e2 e3 e4 e5 e6 e7 e8
    · replace H := H.2 hc
      refine y_next (xst_of (i := (.if_icmp .ne 103)) (len := 3) rfl rfl (xt_icmp_ne (t := 178) rfl hc)) ?_
      refine y_next (pc' := 179) (xst_of (i := (.aload_n 0)) (len := 1) rfl rfl (x_aloadV (xisV_r _) e0)) ?_
      refine y_next (pc' := 180) (xst_of (i := (.iload_n 2)) (len := 1) rfl rfl (x_ilo e2)) ?_
      refine y_next (pc' := 181) (xst_of (i := (.iload_n 3)) (len := 1) rfl rfl (x_ilo e3)) ?_
      refine y_next (pc' := 183) (xst_of (i := (.iload 5)) (len := 2) rfl rfl (x_ilo e5)) ?_
      refine y_next (pc' := 185) (xst_of (i := (.iload 7)) (len := 2) rfl rfl (x_ilo e7)) ?_
      refine z_cI (k := 185) (i := (.invokestatic 254)) (as := [.int (fA Y (10, 0, 0) 25 (Int32.toNatClampNeg l2)), .int (fA Y (10, 0, 0) 25 (Int32.toNatClampNeg l3))]) (rest := [.int l3, .int l2, .ref (g.2 (10, 0, 0) 0)]) rfl rfl rfl (H _ _ R rfl rfl) (fun x18 h Y17 R H => ?_)
      refine y_next (pc' := 189) (xst_of (i := .i2l) (len := 1) rfl rfl rfl) ?_
      refine y_next (pc' := 191) (xst_of (i := (.iload 6)) (len := 2) rfl rfl (x_ilo e6)) ?_
      refine y_next (pc' := 193) (xst_of (i := (.iload 8)) (len := 2) rfl rfl (x_ilo e8)) ?_
      refine z_cI (k := 187) (i := (.invokestatic 257)) (as := [.int (fA Y (10, 0, 0) 26 (Int32.toNatClampNeg l2)), .int (fA Y (10, 0, 0) 26 (Int32.toNatClampNeg l3))]) (rest := [.long (Int32.toInt64 x18), .int l3, .int l2, .ref (g.2 (10, 0, 0) 0)]) rfl rfl rfl (H _ _ R rfl rfl) (fun x20 h Y19 R H => ?_)
      refine y_next (pc' := 197) (xst_of (i := .i2l) (len := 1) rfl rfl rfl) ?_
      refine y_next (pc' := 199) (xst_of (i := (.iload 5)) (len := 2) rfl rfl (x_ilo e5)) ?_
      refine y_next (pc' := 201) (xst_of (i := (.iload 7)) (len := 2) rfl rfl (x_ilo e7)) ?_
      refine z_cI (k := 185) (i := (.invokestatic 254)) (as := [.int (fA Y (10, 0, 0) 25 (Int32.toNatClampNeg l2)), .int (fA Y (10, 0, 0) 25 (Int32.toNatClampNeg l3))]) (rest := [.long (Int32.toInt64 x20), .long (Int32.toInt64 x18), .int l3, .int l2, .ref (g.2 (10, 0, 0) 0)]) rfl rfl rfl (H _ _ R rfl rfl) (fun x22 h Y21 R H => ?_)
      refine y_next (pc' := 205) (xst_of (i := .i2l) (len := 1) rfl rfl rfl) ?_
      refine y_next (pc' := 207) (xst_of (i := (.iload 6)) (len := 2) rfl rfl (x_ilo e6)) ?_
      refine y_next (pc' := 209) (xst_of (i := (.iload 8)) (len := 2) rfl rfl (x_ilo e8)) ?_
      refine z_cI (k := 187) (i := (.invokestatic 257)) (as := [.int (fA Y (10, 0, 0) 26 (Int32.toNatClampNeg l2)), .int (fA Y (10, 0, 0) 26 (Int32.toNatClampNeg l3))]) (rest := [.long (Int32.toInt64 x22), .long (Int32.toInt64 x20), .long (Int32.toInt64 x18), .int l3, .int l2, .ref (g.2 (10, 0, 0) 0)]) rfl rfl rfl (H _ _ R rfl rfl) (fun x24 h Y23 R H => ?_)
      refine y_next (pc' := 213) (xst_of (i := .i2l) (len := 1) rfl rfl rfl) ?_
      refine y_next (pc' := 215) (xst_of (i := (.iload 4)) (len := 2) rfl rfl (x_ilo e4)) ?_
      refine z_cN (k := 155) (i := (.invokevirtual 250)) (as := [.ref (g.2 (10, 0, 0) 0), .int l2, .int l3, .long (Int32.toInt64 x18), .long (Int32.toInt64 x20), .long (Int32.toInt64 x22), .long (Int32.toInt64 x24), .int l4]) (rest := []) rfl rfl (x_callv rfl rfl (rc_ob R (rc_10 R) rfl) rfl rfl) (H _ _ R rfl rfl rfl rfl rfl rfl rfl rfl) (fun h Y25 R H => ?_)
      refine y_next (pc' := 219) (xst_of (i := (.aload_n 0)) (len := 1) rfl rfl (x_aloadV (xisV_r _) e0)) ?_
      refine z_gA (t := (10, 0, 0)) (k := 25) rfl rfl rfl R (rc_10 R) ?_
      refine y_next (pc' := 223) (xst_of (i := (.iload_n 2)) (len := 1) rfl rfl (x_ilo e2)) ?_
      refine y_next (pc' := 225) (xst_of (i := (.iload 5)) (len := 2) rfl rfl (x_ilo e5)) ?_
      refine z_sI (t := (10, 0, 0)) (k := 25) (n := 8) (i := l2) rfl rfl R (rc_10 R) H.1 (fun h Y26 hY R => ?_)
      replace H := H.2 Y26 hY
      clear hY
      refine y_next (pc' := 227) (xst_of (i := (.aload_n 0)) (len := 1) rfl rfl (x_aloadV (xisV_r _) e0)) ?_
      refine z_gA (t := (10, 0, 0)) (k := 26) rfl rfl rfl R (rc_10 R) ?_
      refine y_next (pc' := 231) (xst_of (i := (.iload_n 2)) (len := 1) rfl rfl (x_ilo e2)) ?_
      refine y_next (pc' := 233) (xst_of (i := (.iload 6)) (len := 2) rfl rfl (x_ilo e6)) ?_
      refine z_sI (t := (10, 0, 0)) (k := 26) (n := 8) (i := l2) rfl rfl R (rc_10 R) H.1 (fun h Y27 hY R => ?_)
      replace H := H.2 Y27 hY
      clear hY
      refine y_next (pc' := 235) (xst_of (i := (.aload_n 0)) (len := 1) rfl rfl (x_aloadV (xisV_r _) e0)) ?_
      refine z_gA (t := (10, 0, 0)) (k := 25) rfl rfl rfl R (rc_10 R) ?_
      refine y_next (pc' := 239) (xst_of (i := (.iload_n 3)) (len := 1) rfl rfl (x_ilo e3)) ?_
      refine y_next (pc' := 241) (xst_of (i := (.iload 7)) (len := 2) rfl rfl (x_ilo e7)) ?_
      refine z_sI (t := (10, 0, 0)) (k := 25) (n := 8) (i := l3) rfl rfl R (rc_10 R) H.1 (fun h Y28 hY R => ?_)
      replace H := H.2 Y28 hY
      clear hY
      refine y_next (pc' := 243) (xst_of (i := (.aload_n 0)) (len := 1) rfl rfl (x_aloadV (xisV_r _) e0)) ?_
      refine z_gA (t := (10, 0, 0)) (k := 26) rfl rfl rfl R (rc_10 R) ?_
      refine y_next (pc' := 247) (xst_of (i := (.iload_n 3)) (len := 1) rfl rfl (x_ilo e3)) ?_
      refine y_next (pc' := 249) (xst_of (i := (.iload 8)) (len := 2) rfl rfl (x_ilo e8)) ?_
      refine z_sI (t := (10, 0, 0)) (k := 26) (n := 8) (i := l3) rfl rfl R (rc_10 R) H.1 (fun h Y29 hY R => ?_)
      replace H := H.2 Y29 hY
      clear hY
      refine y_next (pc' := 251) (xst_of (i := (.aload_n 0)) (len := 1) rfl rfl (x_aloadV (xisV_r _) e0)) ?_
      refine z_cN (k := 146) (i := (.invokevirtual 247)) (as := [.ref (g.2 (10, 0, 0) 0)]) (rest := []) rfl rfl (x_callv rfl rfl (rc_ob R (rc_10 R) rfl) rfl rfl) (H _ _ R rfl) (fun h Y30 R H => ?_)
      exact H _ _ R e0 e1 e2 e3 e4 e5 e6 e7 e8
theorem l_154_24 {V : xV} {g : xG} {Y : xW} {l1 : Int32} {l2 : Int32} {l3 : Int32} {l4 : Int32} {Q : xW → Prop} (H : ((l1 = 16) → L_154_36 V g Y l1 l2 l3 l4 1 Q) ∧ (¬ (l1 = 16) → L_154_36 V g Y l1 l2 l3 l4 0 Q)) : L_154_24 V g Y l1 l2 l3 l4 Q := by
  intro h lv R e0 e1 e2 e3 e4
  refine y_next (pc' := 25) (xst_of (i := (.aload_n 0)) (len := 1) rfl rfl (x_aloadV (xisV_r _) e0)) ?_
  refine y_next (pc' := 26) (xst_of (i := (.iload_n 1)) (len := 1) rfl rfl (x_ilo e1)) ?_
  refine y_next (pc' := 28) (xst_of (i := (.bipush 16)) (len := 2) rfl rfl (x_bip (v := 16) (by decide))) ?_
  by_cases hc : l1 = 16
  · replace H := H.1 hc
    refine y_next (pc' := 31) (xst_of (i := (.if_icmp .ne 7)) (len := 3) rfl rfl (xf_icmp_ne (t := 35) rfl (fun z => z hc))) ?_
    refine y_next (pc' := 32) (xst_of (i := (.iconst 1)) (len := 1) rfl rfl (x_ico (v := 1) (by decide))) ?_
    refine y_next (pc' := 36) (xst_of (i := (.goto 4)) (len := 3) rfl rfl rfl) ?_
    exact H _ _ R e0 e1 e2 e3 e4
  · replace H := H.2 hc
    refine y_next (xst_of (i := (.if_icmp .ne 7)) (len := 3) rfl rfl (xt_icmp_ne (t := 35) rfl hc)) ?_
    refine y_next (pc' := 36) (xst_of (i := (.iconst 0)) (len := 1) rfl rfl (x_ico (v := 0) (by decide))) ?_
    exact H _ _ R e0 e1 e2 e3 e4
theorem l_154_36 {V : xV} {g : xG} {Y : xW} {l1 : Int32} {l2 : Int32} {l3 : Int32} {l4 : Int32} {s1 : Int32} {Q : xW → Prop} (H : (s1 = 0 ∨ s1 = 1) ∧ ∀ Y1, Y1 = uI Y (10, 0, 0) 27 s1 → Q Y1) : L_154_36 V g Y l1 l2 l3 l4 s1 Q := by
  intro h lv R e0 e1 e2 e3 e4
  have hz := H.1
  replace H := H.2
  refine z_pI (t := (10, 0, 0)) (k := 27) rfl rfl rfl (xfit_z hz) rfl R (rc_10 R) (fun h Y1 hY R => ?_)
  replace H := H Y1 hY
  clear hY
  exact y_ret (xst_of (i := .return_) (len := 1) rfl rfl rfl) ⟨_, rfl, R, H⟩
theorem l_154_254 {V : xV} {g : xG} {Y : xW} {l1 : Int32} {l2 : Int32} {l3 : Int32} {l4 : Int32} {l5 : Int32} {l6 : Int32} {l7 : Int32} {l8 : Int32} {Q : xW → Prop} (H : Q Y) : L_154_254 V g Y l1 l2 l3 l4 l5 l6 l7 l8 Q := by
  intro h lv R e0 e1 e2 e3 e4 e5 e6 e7 e8
  exact y_ret (xst_of (i := .return_) (len := 1) rfl rfl rfl) ⟨_, rfl, R, H⟩
theorem l_155_0 {V : xV} {g : xG} {Y : xW} {l1 : Int32} {l2 : Int32} {l3 : Int64} {l5 : Int64} {l7 : Int64} {l9 : Int64} {l11 : Int32} {Q : xW → Prop} (H : ((0 : Int32) = 0 ∨ (0 : Int32) = 1) ∧ ∀ Y1, Y1 = uI Y (10, 0, 0) 27 0 → (((fI Y1 (10, 0, 0) 29) = 0) → ((l5 < l3) → L_155_27 V g Y1 l1 l2 l3 l5 l7 l9 l11 Q) ∧ (¬ (l5 < l3) → ((l7 ≤ l9) → vp_in l1 8 ∧ ∀ Y2, Y2 = uA Y1 (10, 0, 0) 25 (Int32.toNatClampNeg l1) (Int64.toInt32 l3) → vp_in l1 8 ∧ ∀ Y3, Y3 = uA Y2 (10, 0, 0) 26 (Int32.toNatClampNeg l1) (Int64.toInt32 l5) → vp_in l2 8 ∧ ∀ Y4, Y4 = uA Y3 (10, 0, 0) 25 (Int32.toNatClampNeg l2) (Int64.toInt32 l7) → vp_in l2 8 ∧ ∀ Y5, Y5 = uA Y4 (10, 0, 0) 26 (Int32.toNatClampNeg l2) (Int64.toInt32 l9) → ((l11 < 0) → L_146_0 V g Y5  (fun Y6 => L_155_81 V g Y6 l1 l2 l3 l5 l7 l9 l11 Q)) ∧ (¬ (l11 < 0) → L_145_0 V g Y5 l11 (fun Y7 => L_155_81 V g Y7 l1 l2 l3 l5 l7 l9 l11 Q))) ∧ (¬ (l7 ≤ l9) → L_155_27 V g Y1 l1 l2 l3 l5 l7 l9 l11 Q))) ∧ (¬ ((fI Y1 (10, 0, 0) 29) = 0) → L_155_27 V g Y1 l1 l2 l3 l5 l7 l9 l11 Q)) : L_155_0 V g Y l1 l2 l3 l5 l7 l9 l11 Q := by
  intro h lv R e0 e1 e2 e3 e5 e7 e9 e11
  refine y_next (pc' := 1) (xst_of (i := (.aload_n 0)) (len := 1) rfl rfl (x_aloadV (xisV_r _) e0)) ?_
  refine y_next (pc' := 2) (xst_of (i := (.iconst 0)) (len := 1) rfl rfl (x_ico (v := 0) (by decide))) ?_
  have hz := H.1
  replace H := H.2
  refine z_pI (t := (10, 0, 0)) (k := 27) rfl rfl rfl (xfit_z hz) rfl R (rc_10 R) (fun h Y1 hY R => ?_)
  replace H := H Y1 hY
  clear hY
  refine y_next (pc' := 6) (xst_of (i := (.aload_n 0)) (len := 1) rfl rfl (x_aloadV (xisV_r _) e0)) ?_
  refine z_gI (t := (10, 0, 0)) (k := 29) rfl rfl rfl R (rc_10 R) ?_
  by_cases hc : (fI Y1 (10, 0, 0) 29) = 0
  · replace H := H.1 hc
    refine y_next (pc' := 12) (xst_of (i := (.ifCond .ne 18)) (len := 3) rfl rfl (xf_if_ne (t := 27) rfl (fun z => z hc))) ?_
    refine y_next (pc' := 13) (xst_of (i := (.lload_n 3)) (len := 1) rfl rfl (x_llo e3)) ?_
    refine y_next (pc' := 15) (xst_of (i := (.lload 5)) (len := 2) rfl rfl (x_llo e5)) ?_
    refine y_next (pc' := 16) (xst_of (i := .lcmp) (len := 1) rfl rfl rfl) ?_
    by_cases hc : l5 < l3
    · replace H := H.1 hc
      refine y_next (xst_of (i := (.ifCond .gt 11)) (len := 3) rfl rfl (xt_if_gt (t := 27) rfl ((lg_cmp_gt l3 l5).mpr hc))) ?_
      exact H _ _ R e0 e1 e2 e3 e5 e7 e9 e11
    · replace H := H.2 hc
      refine y_next (pc' := 19) (xst_of (i := (.ifCond .gt 11)) (len := 3) rfl rfl (xf_if_gt (t := 27) rfl (fun z => hc ((lg_cmp_gt l3 l5).mp z)))) ?_
      refine y_next (pc' := 21) (xst_of (i := (.lload 7)) (len := 2) rfl rfl (x_llo e7)) ?_
      refine y_next (pc' := 23) (xst_of (i := (.lload 9)) (len := 2) rfl rfl (x_llo e9)) ?_
      refine y_next (pc' := 24) (xst_of (i := .lcmp) (len := 1) rfl rfl rfl) ?_
      by_cases hc : l7 ≤ l9
      · replace H := H.1 hc
        refine y_next (xst_of (i := (.ifCond .le 4)) (len := 3) rfl rfl (xt_if_le (t := 28) rfl ((lg_cmp_le l7 l9).mpr hc))) ?_
        refine y_next (pc' := 29) (xst_of (i := (.aload_n 0)) (len := 1) rfl rfl (x_aloadV (xisV_r _) e0)) ?_
        refine z_gA (t := (10, 0, 0)) (k := 25) rfl rfl rfl R (rc_10 R) ?_
        refine y_next (pc' := 33) (xst_of (i := (.iload_n 1)) (len := 1) rfl rfl (x_ilo e1)) ?_
        refine y_next (pc' := 34) (xst_of (i := (.lload_n 3)) (len := 1) rfl rfl (x_llo e3)) ?_
        refine y_next (pc' := 35) (xst_of (i := .l2i) (len := 1) rfl rfl rfl) ?_
        refine z_sI (t := (10, 0, 0)) (k := 25) (n := 8) (i := l1) rfl rfl R (rc_10 R) H.1 (fun h Y2 hY R => ?_)
        replace H := H.2 Y2 hY
        clear hY
        refine y_next (pc' := 37) (xst_of (i := (.aload_n 0)) (len := 1) rfl rfl (x_aloadV (xisV_r _) e0)) ?_
        refine z_gA (t := (10, 0, 0)) (k := 26) rfl rfl rfl R (rc_10 R) ?_
        refine y_next (pc' := 41) (xst_of (i := (.iload_n 1)) (len := 1) rfl rfl (x_ilo e1)) ?_
        refine y_next (pc' := 43) (xst_of (i := (.lload 5)) (len := 2) rfl rfl (x_llo e5)) ?_
        refine y_next (pc' := 44) (xst_of (i := .l2i) (len := 1) rfl rfl rfl) ?_
        refine z_sI (t := (10, 0, 0)) (k := 26) (n := 8) (i := l1) rfl rfl R (rc_10 R) H.1 (fun h Y3 hY R => ?_)
        replace H := H.2 Y3 hY
        clear hY
        refine y_next (pc' := 46) (xst_of (i := (.aload_n 0)) (len := 1) rfl rfl (x_aloadV (xisV_r _) e0)) ?_
        refine z_gA (t := (10, 0, 0)) (k := 25) rfl rfl rfl R (rc_10 R) ?_
        refine y_next (pc' := 50) (xst_of (i := (.iload_n 2)) (len := 1) rfl rfl (x_ilo e2)) ?_
        refine y_next (pc' := 52) (xst_of (i := (.lload 7)) (len := 2) rfl rfl (x_llo e7)) ?_
        refine y_next (pc' := 53) (xst_of (i := .l2i) (len := 1) rfl rfl rfl) ?_
        refine z_sI (t := (10, 0, 0)) (k := 25) (n := 8) (i := l2) rfl rfl R (rc_10 R) H.1 (fun h Y4 hY R => ?_)
        replace H := H.2 Y4 hY
        clear hY
        refine y_next (pc' := 55) (xst_of (i := (.aload_n 0)) (len := 1) rfl rfl (x_aloadV (xisV_r _) e0)) ?_
        refine z_gA (t := (10, 0, 0)) (k := 26) rfl rfl rfl R (rc_10 R) ?_
        refine y_next (pc' := 59) (xst_of (i := (.iload_n 2)) (len := 1) rfl rfl (x_ilo e2)) ?_
        refine y_next (pc' := 61) (xst_of (i := (.lload 9)) (len := 2) rfl rfl (x_llo e9)) ?_
        refine y_next (pc' := 62) (xst_of (i := .l2i) (len := 1) rfl rfl rfl) ?_
        refine z_sI (t := (10, 0, 0)) (k := 26) (n := 8) (i := l2) rfl rfl R (rc_10 R) H.1 (fun h Y5 hY R => ?_)
        replace H := H.2 Y5 hY
        clear hY
        refine y_next (pc' := 65) (xst_of (i := (.iload 11)) (len := 2) rfl rfl (x_ilo e11)) ?_
        by_cases hc : l11 < 0
        · replace H := H.1 hc
          refine y_next (xst_of (i := (.ifCond .lt 12)) (len := 3) rfl rfl (xt_if_lt (t := 77) rfl hc)) ?_
          refine y_next (pc' := 78) (xst_of (i := (.aload_n 0)) (len := 1) rfl rfl (x_aloadV (xisV_r _) e0)) ?_
          refine z_cN (k := 146) (i := (.invokevirtual 247)) (as := [.ref (g.2 (10, 0, 0) 0)]) (rest := []) rfl rfl (x_callv rfl rfl (rc_ob R (rc_10 R) rfl) rfl rfl) (H _ _ R rfl) (fun h Y6 R H => ?_)
          exact H _ _ R e0 e1 e2 e3 e5 e7 e9 e11
        · replace H := H.2 hc
          refine y_next (pc' := 68) (xst_of (i := (.ifCond .lt 12)) (len := 3) rfl rfl (xf_if_lt (t := 77) rfl hc)) ?_
          refine y_next (pc' := 69) (xst_of (i := (.aload_n 0)) (len := 1) rfl rfl (x_aloadV (xisV_r _) e0)) ?_
          refine y_next (pc' := 71) (xst_of (i := (.iload 11)) (len := 2) rfl rfl (x_ilo e11)) ?_
          refine z_cN (k := 145) (i := (.invokevirtual 201)) (as := [.ref (g.2 (10, 0, 0) 0), .int l11]) (rest := []) rfl rfl (x_callv rfl rfl (rc_ob R (rc_10 R) rfl) rfl rfl) (H _ _ R rfl rfl) (fun h Y7 R H => ?_)
          refine y_next (pc' := 81) (xst_of (i := (.goto 7)) (len := 3) rfl rfl rfl) ?_
          exact H _ _ R e0 e1 e2 e3 e5 e7 e9 e11
      · replace H := H.2 hc
        refine y_next (pc' := 27) (xst_of (i := (.ifCond .le 4)) (len := 3) rfl rfl (xf_if_le (t := 28) rfl (fun z => hc ((lg_cmp_le l7 l9).mp z)))) ?_
        exact H _ _ R e0 e1 e2 e3 e5 e7 e9 e11
  · replace H := H.2 hc
    refine y_next (xst_of (i := (.ifCond .ne 18)) (len := 3) rfl rfl (xt_if_ne (t := 27) rfl hc)) ?_
    exact H _ _ R e0 e1 e2 e3 e5 e7 e9 e11
theorem l_155_27 {V : xV} {g : xG} {Y : xW} {l1 : Int32} {l2 : Int32} {l3 : Int64} {l5 : Int64} {l7 : Int64} {l9 : Int64} {l11 : Int32} {Q : xW → Prop} (H : Q Y) : L_155_27 V g Y l1 l2 l3 l5 l7 l9 l11 Q := by
  intro h lv R e0 e1 e2 e3 e5 e7 e9 e11
  exact y_ret (xst_of (i := .return_) (len := 1) rfl rfl rfl) ⟨_, rfl, R, H⟩
theorem l_155_81 {V : xV} {g : xG} {Y : xW} {l1 : Int32} {l2 : Int32} {l3 : Int64} {l5 : Int64} {l7 : Int64} {l9 : Int64} {l11 : Int32} {Q : xW → Prop} (H : Q Y) : L_155_81 V g Y l1 l2 l3 l5 l7 l9 l11 Q := by
  intro h lv R e0 e1 e2 e3 e5 e7 e9 e11
  exact y_ret (xst_of (i := .return_) (len := 1) rfl rfl rfl) ⟨_, rfl, R, H⟩
theorem l_156_0 {V : xV} {g : xG} {Y : xW} {l1 : Int32} {l2 : Int32} {l3 : Int32} {Q : Int32 → xW → Prop} (H : L_156_6 V g Y l1 l2 l3 1 0 Q) : L_156_0 V g Y l1 l2 l3 Q := by
  intro h lv R e0 e1 e2 e3
  refine y_next (pc' := 1) (xst_of (i := (.iconst 1)) (len := 1) rfl rfl (x_ico (v := 1) (by decide))) ?_
  refine z_is (i := (.istore 4)) (len := 2) (pc' := 3) (q := 4) rfl rfl rfl (by decide) (fun lv1 hlv => ?_)
  have e0 := xs1_A hlv e0 rfl rfl
  have e1 := xs1_A hlv e1 rfl rfl
  have e2 := xs1_A hlv e2 rfl rfl
  have e3 := xs1_B hlv e3 rfl rfl
  have e4 := xs1_N hlv
  clear hlv
  refine y_next (pc' := 4) (xst_of (i := (.iconst 0)) (len := 1) rfl rfl (x_ico (v := 0) (by decide))) ?_
  refine z_is (i := (.istore 5)) (len := 2) (pc' := 6) (q := 5) rfl rfl rfl (by decide) (fun lv2 hlv => ?_)
  have e0 := xs1_A hlv e0 rfl rfl
  have e1 := xs1_A hlv e1 rfl rfl
  have e2 := xs1_A hlv e2 rfl rfl
  have e3 := xs1_A hlv e3 rfl rfl
  have e4 := xs1_B hlv e4 rfl rfl
  have e5 := xs1_N hlv
  clear hlv
  exact H _ _ R e0 e1 e2 e3 e4 e5
theorem l_156_6 {V : xV} {g : xG} {Y : xW} {l1 : Int32} {l2 : Int32} {l3 : Int32} {l4 : Int32} {l5 : Int32} {Q : Int32 → xW → Prop} (H : ((8 ≤ l5) → (l4 = 0 ∨ l4 = 1) ∧ Q l4 Y) ∧ (¬ (8 ≤ l5) → ((l4 = 0) → L_156_99 V g Y l1 l2 l3 l4 l5 ((8 * ((8 * l1) + l2)) + l5) Q) ∧ (¬ (l4 = 0) → vp_in ((8 * ((8 * l1) + l2)) + l5) 1536 ∧ vp_in ((8 * ((8 * l1) + l2)) + l5) 1536 ∧ vp_in ((8 * ((8 * l1) + l2)) + l5) 1536 ∧ vp_in ((8 * l3) + l5) 38400 ∧ vp_in ((8 * l3) + l5) 38400 ∧ vp_in ((8 * l3) + l5) 38400 ∧ L_142_0 V g Y (fA Y (10, 0, 0) 19 (Int32.toNatClampNeg ((8 * ((8 * l1) + l2)) + l5))) (fA Y (10, 0, 0) 20 (Int32.toNatClampNeg ((8 * ((8 * l1) + l2)) + l5))) (fA Y (10, 0, 0) 21 (Int32.toNatClampNeg ((8 * ((8 * l1) + l2)) + l5))) (fA Y (10, 0, 0) 14 (Int32.toNatClampNeg ((8 * l3) + l5))) (fA Y (10, 0, 0) 15 (Int32.toNatClampNeg ((8 * l3) + l5))) (fA Y (10, 0, 0) 16 (Int32.toNatClampNeg ((8 * l3) + l5))) (fun x2 Y1 => ((x2 = 0) → L_156_99 V g Y1 l1 l2 l3 l4 l5 ((8 * ((8 * l1) + l2)) + l5) Q) ∧ (¬ (x2 = 0) → L_156_100 V g Y1 l1 l2 l3 l4 l5 ((8 * ((8 * l1) + l2)) + l5) 1 Q))))) : L_156_6 V g Y l1 l2 l3 l4 l5 Q := by
  intro h lv R e0 e1 e2 e3 e4 e5
  refine y_next (pc' := 8) (xst_of (i := (.iload 5)) (len := 2) rfl rfl (x_ilo e5)) ?_
  refine y_next (pc' := 10) (xst_of (i := (.bipush 8)) (len := 2) rfl rfl (x_bip (v := 8) (by decide))) ?_
  by_cases hc : 8 ≤ l5
  · replace H := H.1 hc
    refine y_next (xst_of (i := (.if_icmp .ge 98)) (len := 3) rfl rfl (xt_icmp_ge (t := 108) rfl hc)) ?_
    refine y_next (pc' := 110) (xst_of (i := (.iload 4)) (len := 2) rfl rfl (x_ilo e4)) ?_
    exact y_ret (xst_of (i := .ireturn) (len := 1) rfl rfl (x_zret rfl H.1)) ⟨_, _, rfl, R, H.2⟩
  · replace H := H.2 hc
    refine y_next (pc' := 13) (xst_of (i := (.if_icmp .ge 98)) (len := 3) rfl rfl (xf_icmp_ge (t := 108) rfl hc)) ?_
    refine y_next (pc' := 15) (xst_of (i := (.bipush 8)) (len := 2) rfl rfl (x_bip (v := 8) (by decide))) ?_
    refine y_next (pc' := 17) (xst_of (i := (.bipush 8)) (len := 2) rfl rfl (x_bip (v := 8) (by decide))) ?_
    refine y_next (pc' := 18) (xst_of (i := (.iload_n 1)) (len := 1) rfl rfl (x_ilo e1)) ?_
    refine y_next (pc' := 19) (xst_of (i := .imul) (len := 1) rfl rfl rfl) ?_
    refine y_next (pc' := 20) (xst_of (i := (.iload_n 2)) (len := 1) rfl rfl (x_ilo e2)) ?_
    refine y_next (pc' := 21) (xst_of (i := .iadd) (len := 1) rfl rfl rfl) ?_
    refine y_next (pc' := 22) (xst_of (i := .imul) (len := 1) rfl rfl rfl) ?_
    refine y_next (pc' := 24) (xst_of (i := (.iload 5)) (len := 2) rfl rfl (x_ilo e5)) ?_
    refine y_next (pc' := 25) (xst_of (i := .iadd) (len := 1) rfl rfl rfl) ?_
    refine z_is (i := (.istore 6)) (len := 2) (pc' := 27) (q := 6) rfl rfl rfl (by decide) (fun lv1 hlv => ?_)
    have e0 := xs1_A hlv e0 rfl rfl
    have e1 := xs1_A hlv e1 rfl rfl
    have e2 := xs1_A hlv e2 rfl rfl
    have e3 := xs1_A hlv e3 rfl rfl
    have e4 := xs1_A hlv e4 rfl rfl
    have e5 := xs1_B hlv e5 rfl rfl
    have e6 := xs1_N hlv
    clear hlv
    refine y_next (pc' := 29) (xst_of (i := (.iload 4)) (len := 2) rfl rfl (x_ilo e4)) ?_
    by_cases hc : l4 = 0
    · replace H := H.1 hc
      refine y_next (xst_of (i := (.ifCond .eq 70)) (len := 3) rfl rfl (xt_if_eq (t := 99) rfl hc)) ?_
      exact H _ _ R e0 e1 e2 e3 e4 e5 e6
    · replace H := H.2 hc
      refine y_next (pc' := 32) (xst_of (i := (.ifCond .eq 70)) (len := 3) rfl rfl (xf_if_eq (t := 99) rfl hc)) ?_
      refine y_next (pc' := 33) (xst_of (i := (.aload_n 0)) (len := 1) rfl rfl (x_aloadV (xisV_r _) e0)) ?_
      refine z_gA (t := (10, 0, 0)) (k := 19) rfl rfl rfl R (rc_10 R) ?_
      refine y_next (pc' := 38) (xst_of (i := (.iload 6)) (len := 2) rfl rfl (x_ilo e6)) ?_
      refine z_aI (t := (10, 0, 0)) (k := 19) (n := 1536) (i := ((8 * ((8 * l1) + l2)) + l5)) rfl rfl R (rc_10 R) H.1 ?_
      replace H := H.2
      refine y_next (pc' := 40) (xst_of (i := (.aload_n 0)) (len := 1) rfl rfl (x_aloadV (xisV_r _) e0)) ?_
      refine z_gA (t := (10, 0, 0)) (k := 20) rfl rfl rfl R (rc_10 R) ?_
      refine y_next (pc' := 45) (xst_of (i := (.iload 6)) (len := 2) rfl rfl (x_ilo e6)) ?_
      refine z_aI (t := (10, 0, 0)) (k := 20) (n := 1536) (i := ((8 * ((8 * l1) + l2)) + l5)) rfl rfl R (rc_10 R) H.1 ?_
      replace H := H.2
      refine y_next (pc' := 47) (xst_of (i := (.aload_n 0)) (len := 1) rfl rfl (x_aloadV (xisV_r _) e0)) ?_
      refine z_gA (t := (10, 0, 0)) (k := 21) rfl rfl rfl R (rc_10 R) ?_
      refine y_next (pc' := 52) (xst_of (i := (.iload 6)) (len := 2) rfl rfl (x_ilo e6)) ?_
      refine z_aI (t := (10, 0, 0)) (k := 21) (n := 1536) (i := ((8 * ((8 * l1) + l2)) + l5)) rfl rfl R (rc_10 R) H.1 ?_
      replace H := H.2
      refine y_next (pc' := 54) (xst_of (i := (.aload_n 0)) (len := 1) rfl rfl (x_aloadV (xisV_r _) e0)) ?_
      refine z_gA (t := (10, 0, 0)) (k := 14) rfl rfl rfl R (rc_10 R) ?_
      refine y_next (pc' := 59) (xst_of (i := (.bipush 8)) (len := 2) rfl rfl (x_bip (v := 8) (by decide))) ?_
      refine y_next (pc' := 60) (xst_of (i := (.iload_n 3)) (len := 1) rfl rfl (x_ilo e3)) ?_
      refine y_next (pc' := 61) (xst_of (i := .imul) (len := 1) rfl rfl rfl) ?_
      refine y_next (pc' := 63) (xst_of (i := (.iload 5)) (len := 2) rfl rfl (x_ilo e5)) ?_
      refine y_next (pc' := 64) (xst_of (i := .iadd) (len := 1) rfl rfl rfl) ?_
      refine z_aI (t := (10, 0, 0)) (k := 14) (n := 38400) (i := ((8 * l3) + l5)) rfl rfl R (rc_10 R) H.1 ?_
      replace H := H.2
      refine y_next (pc' := 66) (xst_of (i := (.aload_n 0)) (len := 1) rfl rfl (x_aloadV (xisV_r _) e0)) ?_
      refine z_gA (t := (10, 0, 0)) (k := 15) rfl rfl rfl R (rc_10 R) ?_
      refine y_next (pc' := 71) (xst_of (i := (.bipush 8)) (len := 2) rfl rfl (x_bip (v := 8) (by decide))) ?_
      refine y_next (pc' := 72) (xst_of (i := (.iload_n 3)) (len := 1) rfl rfl (x_ilo e3)) ?_
      refine y_next (pc' := 73) (xst_of (i := .imul) (len := 1) rfl rfl rfl) ?_
      refine y_next (pc' := 75) (xst_of (i := (.iload 5)) (len := 2) rfl rfl (x_ilo e5)) ?_
      refine y_next (pc' := 76) (xst_of (i := .iadd) (len := 1) rfl rfl rfl) ?_
      refine z_aI (t := (10, 0, 0)) (k := 15) (n := 38400) (i := ((8 * l3) + l5)) rfl rfl R (rc_10 R) H.1 ?_
      replace H := H.2
      refine y_next (pc' := 78) (xst_of (i := (.aload_n 0)) (len := 1) rfl rfl (x_aloadV (xisV_r _) e0)) ?_
      refine z_gA (t := (10, 0, 0)) (k := 16) rfl rfl rfl R (rc_10 R) ?_
      refine y_next (pc' := 83) (xst_of (i := (.bipush 8)) (len := 2) rfl rfl (x_bip (v := 8) (by decide))) ?_
      refine y_next (pc' := 84) (xst_of (i := (.iload_n 3)) (len := 1) rfl rfl (x_ilo e3)) ?_
      refine y_next (pc' := 85) (xst_of (i := .imul) (len := 1) rfl rfl rfl) ?_
      refine y_next (pc' := 87) (xst_of (i := (.iload 5)) (len := 2) rfl rfl (x_ilo e5)) ?_
      refine y_next (pc' := 88) (xst_of (i := .iadd) (len := 1) rfl rfl rfl) ?_
      refine z_aI (t := (10, 0, 0)) (k := 16) (n := 38400) (i := ((8 * l3) + l5)) rfl rfl R (rc_10 R) H.1 ?_
      replace H := H.2
      refine z_cI (k := 142) (i := (.invokestatic 177)) (as := [.int (fA Y (10, 0, 0) 19 (Int32.toNatClampNeg ((8 * ((8 * l1) + l2)) + l5))), .int (fA Y (10, 0, 0) 20 (Int32.toNatClampNeg ((8 * ((8 * l1) + l2)) + l5))), .int (fA Y (10, 0, 0) 21 (Int32.toNatClampNeg ((8 * ((8 * l1) + l2)) + l5))), .int (fA Y (10, 0, 0) 14 (Int32.toNatClampNeg ((8 * l3) + l5))), .int (fA Y (10, 0, 0) 15 (Int32.toNatClampNeg ((8 * l3) + l5))), .int (fA Y (10, 0, 0) 16 (Int32.toNatClampNeg ((8 * l3) + l5)))]) (rest := []) rfl rfl rfl (H _ _ R rfl rfl rfl rfl rfl rfl) (fun x2 h Y1 R H => ?_)
      by_cases hc : x2 = 0
      · replace H := H.1 hc
        refine y_next (xst_of (i := (.ifCond .eq 7)) (len := 3) rfl rfl (xt_if_eq (t := 99) rfl hc)) ?_
        exact H _ _ R e0 e1 e2 e3 e4 e5 e6
      · replace H := H.2 hc
        refine y_next (pc' := 95) (xst_of (i := (.ifCond .eq 7)) (len := 3) rfl rfl (xf_if_eq (t := 99) rfl hc)) ?_
        refine y_next (pc' := 96) (xst_of (i := (.iconst 1)) (len := 1) rfl rfl (x_ico (v := 1) (by decide))) ?_
        refine y_next (pc' := 100) (xst_of (i := (.goto 4)) (len := 3) rfl rfl rfl) ?_
        exact H _ _ R e0 e1 e2 e3 e4 e5 e6
theorem l_156_99 {V : xV} {g : xG} {Y : xW} {l1 : Int32} {l2 : Int32} {l3 : Int32} {l4 : Int32} {l5 : Int32} {l6 : Int32} {Q : Int32 → xW → Prop} (H : L_156_100 V g Y l1 l2 l3 l4 l5 l6 0 Q) : L_156_99 V g Y l1 l2 l3 l4 l5 l6 Q := by
  intro h lv R e0 e1 e2 e3 e4 e5 e6
  refine y_next (pc' := 100) (xst_of (i := (.iconst 0)) (len := 1) rfl rfl (x_ico (v := 0) (by decide))) ?_
  exact H _ _ R e0 e1 e2 e3 e4 e5 e6
theorem l_156_100 {V : xV} {g : xG} {Y : xW} {l1 : Int32} {l2 : Int32} {l3 : Int32} {l4 : Int32} {l5 : Int32} {l6 : Int32} {s0 : Int32} {Q : Int32 → xW → Prop} (H : L_156_6 V g Y l1 l2 l3 s0 (l5 + 1) Q) : L_156_100 V g Y l1 l2 l3 l4 l5 l6 s0 Q := by
  intro h lv R e0 e1 e2 e3 e4 e5 e6
  refine z_is (i := (.istore 4)) (len := 2) (pc' := 102) (q := 4) rfl rfl rfl (by decide) (fun lv1 hlv => ?_)
  have e0 := xs1_A hlv e0 rfl rfl
  have e1 := xs1_A hlv e1 rfl rfl
  have e2 := xs1_A hlv e2 rfl rfl
  have e3 := xs1_B hlv e3 rfl rfl
  have e5 := xs1_A hlv e5 rfl rfl
  have e6 := xs1_A hlv e6 rfl rfl
  have e4 := xs1_N hlv
  clear hlv
  refine z_in (q := 5) (n := 1) (v := 1) rfl e5 (by decide) (by decide) (fun lv2 hlv => ?_)
  have e0 := xs1_A hlv e0 rfl rfl
  have e1 := xs1_A hlv e1 rfl rfl
  have e2 := xs1_A hlv e2 rfl rfl
  have e3 := xs1_A hlv e3 rfl rfl
  have e4 := xs1_B hlv e4 rfl rfl
  have e6 := xs1_A hlv e6 rfl rfl
  have e5 := xs1_N hlv
  clear hlv
  refine y_next (pc' := 6) (xst_of (i := (.goto (-99))) (len := 3) rfl rfl rfl) ?_
  exact H _ _ R e0 e1 e2 e3 e4 e5
theorem l_157_0 {V : xV} {g : xG} {Y : xW} {l1 : Int32} {l2 : Int32} {Q : xW → Prop} (H : vp_in ((8 * l1) + l2) 192 ∧ vp_in ((200 * l1) + (fA Y (10, 0, 0) 17 (Int32.toNatClampNeg ((8 * l1) + l2)))) 4800 ∧ (((fA Y (10, 0, 0) 13 (Int32.toNatClampNeg ((200 * l1) + (fA Y (10, 0, 0) 17 (Int32.toNatClampNeg ((8 * l1) + l2)))))) = l2) → L_143_0 V g Y ((200 * l1) + (fA Y (10, 0, 0) 17 (Int32.toNatClampNeg ((8 * l1) + l2)))) (fun x2 Y1 => ((x2 = 0) → L_141_0 V g Y1 9 (fun Y3 => L_157_107 V g Y3 l1 l2 ((200 * l1) + (fA Y (10, 0, 0) 17 (Int32.toNatClampNeg ((8 * l1) + l2)))) Q)) ∧ (¬ (x2 = 0) → L_144_0 V g Y1 ((fI Y1 (10, 0, 0) 28) + 1) (fun x5 Y4 => ((x5 = (fI Y4 (10, 0, 0) 30)) → L_156_0 V g Y4 l1 l2 (((200 * (fI Y4 (10, 0, 0) 5)) + (fI Y4 (10, 0, 0) 28)) + 1) (fun x7 Y6 => ((x7 = 0) → L_141_0 V g Y6 4 (fun Y8 => L_157_107 V g Y8 l1 l2 ((200 * l1) + (fA Y (10, 0, 0) 17 (Int32.toNatClampNeg ((8 * l1) + l2)))) Q)) ∧ (¬ (x7 = 0) → L_157_107 V g Y6 l1 l2 ((200 * l1) + (fA Y (10, 0, 0) 17 (Int32.toNatClampNeg ((8 * l1) + l2)))) Q))) ∧ (¬ (x5 = (fI Y4 (10, 0, 0) 30)) → L_141_0 V g Y4 1 (fun Y9 => L_157_107 V g Y9 l1 l2 ((200 * l1) + (fA Y (10, 0, 0) 17 (Int32.toNatClampNeg ((8 * l1) + l2)))) Q)))))) ∧ (¬ ((fA Y (10, 0, 0) 13 (Int32.toNatClampNeg ((200 * l1) + (fA Y (10, 0, 0) 17 (Int32.toNatClampNeg ((8 * l1) + l2)))))) = l2) → L_141_0 V g Y 1 (fun Y10 => L_157_107 V g Y10 l1 l2 ((200 * l1) + (fA Y (10, 0, 0) 17 (Int32.toNatClampNeg ((8 * l1) + l2)))) Q))) : L_157_0 V g Y l1 l2 Q := by
  intro h lv R e0 e1 e2
  refine y_next (pc' := 3) (xst_of (i := (.sipush 200)) (len := 3) rfl rfl (x_sip (v := 200) (by decide))) ?_
  refine y_next (pc' := 4) (xst_of (i := (.iload_n 1)) (len := 1) rfl rfl (x_ilo e1)) ?_
  refine y_next (pc' := 5) (xst_of (i := .imul) (len := 1) rfl rfl rfl) ?_
  refine y_next (pc' := 6) (xst_of (i := (.aload_n 0)) (len := 1) rfl rfl (x_aloadV (xisV_r _) e0)) ?_
  refine z_gA (t := (10, 0, 0)) (k := 17) rfl rfl rfl R (rc_10 R) ?_
  refine y_next (pc' := 11) (xst_of (i := (.bipush 8)) (len := 2) rfl rfl (x_bip (v := 8) (by decide))) ?_
  refine y_next (pc' := 12) (xst_of (i := (.iload_n 1)) (len := 1) rfl rfl (x_ilo e1)) ?_
  refine y_next (pc' := 13) (xst_of (i := .imul) (len := 1) rfl rfl rfl) ?_
  refine y_next (pc' := 14) (xst_of (i := (.iload_n 2)) (len := 1) rfl rfl (x_ilo e2)) ?_
  refine y_next (pc' := 15) (xst_of (i := .iadd) (len := 1) rfl rfl rfl) ?_
  refine z_aI (t := (10, 0, 0)) (k := 17) (n := 192) (i := ((8 * l1) + l2)) rfl rfl R (rc_10 R) H.1 ?_
  replace H := H.2
  refine y_next (pc' := 17) (xst_of (i := .iadd) (len := 1) rfl rfl rfl) ?_
  refine z_is (i := (.istore_n 3)) (len := 1) (pc' := 18) (q := 3) rfl rfl rfl (by decide) (fun lv1 hlv => ?_)
  have e0 := xs1_A hlv e0 rfl rfl
  have e1 := xs1_A hlv e1 rfl rfl
  have e2 := xs1_B hlv e2 rfl rfl
  have e3 := xs1_N hlv
  clear hlv
  refine y_next (pc' := 19) (xst_of (i := (.aload_n 0)) (len := 1) rfl rfl (x_aloadV (xisV_r _) e0)) ?_
  refine z_gA (t := (10, 0, 0)) (k := 13) rfl rfl rfl R (rc_10 R) ?_
  refine y_next (pc' := 23) (xst_of (i := (.iload_n 3)) (len := 1) rfl rfl (x_ilo e3)) ?_
  refine z_aI (t := (10, 0, 0)) (k := 13) (n := 4800) (i := ((200 * l1) + (fA Y (10, 0, 0) 17 (Int32.toNatClampNeg ((8 * l1) + l2))))) rfl rfl R (rc_10 R) H.1 ?_
  replace H := H.2
  refine y_next (pc' := 25) (xst_of (i := (.iload_n 2)) (len := 1) rfl rfl (x_ilo e2)) ?_
  by_cases hc : (fA Y (10, 0, 0) 13 (Int32.toNatClampNeg ((200 * l1) + (fA Y (10, 0, 0) 17 (Int32.toNatClampNeg ((8 * l1) + l2)))))) = l2
  · replace H := H.1 hc
    refine y_next (xst_of (i := (.if_icmp .eq 11)) (len := 3) rfl rfl (xt_icmp_eq (t := 36) rfl hc)) ?_
    refine y_next (pc' := 37) (xst_of (i := (.aload_n 0)) (len := 1) rfl rfl (x_aloadV (xisV_r _) e0)) ?_
    refine y_next (pc' := 38) (xst_of (i := (.iload_n 3)) (len := 1) rfl rfl (x_ilo e3)) ?_
    refine z_cI (k := 143) (i := (.invokevirtual 191)) (as := [.ref (g.2 (10, 0, 0) 0), .int ((200 * l1) + (fA Y (10, 0, 0) 17 (Int32.toNatClampNeg ((8 * l1) + l2))))]) (rest := []) rfl rfl (x_callv rfl rfl (rc_ob R (rc_10 R) rfl) rfl rfl) (H _ _ R rfl rfl) (fun x2 h Y1 R H => ?_)
    by_cases hc : x2 = 0
    · replace H := H.1 hc
      refine y_next (pc' := 44) (xst_of (i := (.ifCond .ne 12)) (len := 3) rfl rfl (xf_if_ne (t := 53) rfl (fun z => z hc))) ?_
      refine y_next (pc' := 45) (xst_of (i := (.aload_n 0)) (len := 1) rfl rfl (x_aloadV (xisV_r _) e0)) ?_
      refine y_next (pc' := 47) (xst_of (i := (.bipush 9)) (len := 2) rfl rfl (x_bip (v := 9) (by decide))) ?_
      refine z_cN (k := 141) (i := (.invokevirtual 187)) (as := [.ref (g.2 (10, 0, 0) 0), .int 9]) (rest := []) rfl rfl (x_callv rfl rfl (rc_ob R (rc_10 R) rfl) rfl rfl) (H _ _ R rfl rfl) (fun h Y3 R H => ?_)
      refine y_next (pc' := 107) (xst_of (i := (.goto 57)) (len := 3) rfl rfl rfl) ?_
      exact H _ _ R e0 e1 e2 e3
    · replace H := H.2 hc
      refine y_next (xst_of (i := (.ifCond .ne 12)) (len := 3) rfl rfl (xt_if_ne (t := 53) rfl hc)) ?_
      refine y_next (pc' := 54) (xst_of (i := (.aload_n 0)) (len := 1) rfl rfl (x_aloadV (xisV_r _) e0)) ?_
      refine y_next (pc' := 55) (xst_of (i := (.aload_n 0)) (len := 1) rfl rfl (x_aloadV (xisV_r _) e0)) ?_
      refine z_gI (t := (10, 0, 0)) (k := 28) rfl rfl rfl R (rc_10 R) ?_
      refine y_next (pc' := 59) (xst_of (i := (.iconst 1)) (len := 1) rfl rfl (x_ico (v := 1) (by decide))) ?_
      refine y_next (pc' := 60) (xst_of (i := .iadd) (len := 1) rfl rfl rfl) ?_
      refine z_cI (k := 144) (i := (.invokevirtual 181)) (as := [.ref (g.2 (10, 0, 0) 0), .int ((fI Y1 (10, 0, 0) 28) + 1)]) (rest := []) rfl rfl (x_callv rfl rfl (rc_ob R (rc_10 R) rfl) rfl rfl) (H _ _ R rfl rfl) (fun x5 h Y4 R H => ?_)
      refine y_next (pc' := 64) (xst_of (i := (.aload_n 0)) (len := 1) rfl rfl (x_aloadV (xisV_r _) e0)) ?_
      refine z_gI (t := (10, 0, 0)) (k := 30) rfl rfl rfl R (rc_10 R) ?_
      by_cases hc : x5 = (fI Y4 (10, 0, 0) 30)
      · replace H := H.1 hc
        refine y_next (xst_of (i := (.if_icmp .eq 11)) (len := 3) rfl rfl (xt_icmp_eq (t := 78) rfl hc)) ?_
        refine y_next (pc' := 79) (xst_of (i := (.aload_n 0)) (len := 1) rfl rfl (x_aloadV (xisV_r _) e0)) ?_
        refine y_next (pc' := 80) (xst_of (i := (.iload_n 1)) (len := 1) rfl rfl (x_ilo e1)) ?_
        refine y_next (pc' := 81) (xst_of (i := (.iload_n 2)) (len := 1) rfl rfl (x_ilo e2)) ?_
        refine y_next (pc' := 84) (xst_of (i := (.sipush 200)) (len := 3) rfl rfl (x_sip (v := 200) (by decide))) ?_
        refine y_next (pc' := 85) (xst_of (i := (.aload_n 0)) (len := 1) rfl rfl (x_aloadV (xisV_r _) e0)) ?_
        refine z_gI (t := (10, 0, 0)) (k := 5) rfl rfl rfl R (rc_10 R) ?_
        refine y_next (pc' := 89) (xst_of (i := .imul) (len := 1) rfl rfl rfl) ?_
        refine y_next (pc' := 90) (xst_of (i := (.aload_n 0)) (len := 1) rfl rfl (x_aloadV (xisV_r _) e0)) ?_
        refine z_gI (t := (10, 0, 0)) (k := 28) rfl rfl rfl R (rc_10 R) ?_
        refine y_next (pc' := 94) (xst_of (i := .iadd) (len := 1) rfl rfl rfl) ?_
        refine y_next (pc' := 95) (xst_of (i := (.iconst 1)) (len := 1) rfl rfl (x_ico (v := 1) (by decide))) ?_
        refine y_next (pc' := 96) (xst_of (i := .iadd) (len := 1) rfl rfl rfl) ?_
        refine z_cI (k := 156) (i := (.invokevirtual 259)) (as := [.ref (g.2 (10, 0, 0) 0), .int l1, .int l2, .int (((200 * (fI Y4 (10, 0, 0) 5)) + (fI Y4 (10, 0, 0) 28)) + 1)]) (rest := []) rfl rfl (x_callv rfl rfl (rc_ob R (rc_10 R) rfl) rfl rfl) (H _ _ R rfl rfl rfl rfl) (fun x7 h Y6 R H => ?_)
        by_cases hc : x7 = 0
        · replace H := H.1 hc
          refine y_next (pc' := 102) (xst_of (i := (.ifCond .ne 8)) (len := 3) rfl rfl (xf_if_ne (t := 107) rfl (fun z => z hc))) ?_
          refine y_next (pc' := 103) (xst_of (i := (.aload_n 0)) (len := 1) rfl rfl (x_aloadV (xisV_r _) e0)) ?_
          refine y_next (pc' := 104) (xst_of (i := (.iconst 4)) (len := 1) rfl rfl (x_ico (v := 4) (by decide))) ?_
          refine z_cN (k := 141) (i := (.invokevirtual 187)) (as := [.ref (g.2 (10, 0, 0) 0), .int 4]) (rest := []) rfl rfl (x_callv rfl rfl (rc_ob R (rc_10 R) rfl) rfl rfl) (H _ _ R rfl rfl) (fun h Y8 R H => ?_)
          exact H _ _ R e0 e1 e2 e3
        · replace H := H.2 hc
          refine y_next (xst_of (i := (.ifCond .ne 8)) (len := 3) rfl rfl (xt_if_ne (t := 107) rfl hc)) ?_
          exact H _ _ R e0 e1 e2 e3
      · replace H := H.2 hc
        refine y_next (pc' := 70) (xst_of (i := (.if_icmp .eq 11)) (len := 3) rfl rfl (xf_icmp_eq (t := 78) rfl hc)) ?_
        refine y_next (pc' := 71) (xst_of (i := (.aload_n 0)) (len := 1) rfl rfl (x_aloadV (xisV_r _) e0)) ?_
        refine y_next (pc' := 72) (xst_of (i := (.iconst 1)) (len := 1) rfl rfl (x_ico (v := 1) (by decide))) ?_
        refine z_cN (k := 141) (i := (.invokevirtual 187)) (as := [.ref (g.2 (10, 0, 0) 0), .int 1]) (rest := []) rfl rfl (x_callv rfl rfl (rc_ob R (rc_10 R) rfl) rfl rfl) (H _ _ R rfl rfl) (fun h Y9 R H => ?_)
        refine y_next (pc' := 107) (xst_of (i := (.goto 32)) (len := 3) rfl rfl rfl) ?_
        exact H _ _ R e0 e1 e2 e3
  · replace H := H.2 hc
    refine y_next (pc' := 28) (xst_of (i := (.if_icmp .eq 11)) (len := 3) rfl rfl (xf_icmp_eq (t := 36) rfl hc)) ?_
    refine y_next (pc' := 29) (xst_of (i := (.aload_n 0)) (len := 1) rfl rfl (x_aloadV (xisV_r _) e0)) ?_
    refine y_next (pc' := 30) (xst_of (i := (.iconst 1)) (len := 1) rfl rfl (x_ico (v := 1) (by decide))) ?_
    refine z_cN (k := 141) (i := (.invokevirtual 187)) (as := [.ref (g.2 (10, 0, 0) 0), .int 1]) (rest := []) rfl rfl (x_callv rfl rfl (rc_ob R (rc_10 R) rfl) rfl rfl) (H _ _ R rfl rfl) (fun h Y10 R H => ?_)
    refine y_next (pc' := 107) (xst_of (i := (.goto 74)) (len := 3) rfl rfl rfl) ?_
    exact H _ _ R e0 e1 e2 e3
theorem l_157_107 {V : xV} {g : xG} {Y : xW} {l1 : Int32} {l2 : Int32} {l3 : Int32} {Q : xW → Prop} (H : Q Y) : L_157_107 V g Y l1 l2 l3 Q := by
  intro h lv R e0 e1 e2 e3
  exact y_ret (xst_of (i := .return_) (len := 1) rfl rfl rfl) ⟨_, rfl, R, H⟩
