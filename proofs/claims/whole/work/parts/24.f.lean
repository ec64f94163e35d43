theorem l_89_0 {V : xV} {g : xG} {Y : xW} {l1 : Int32} {Q : Int32 → xW → Prop} (H : ∀ o1, o1 = fR Y (9, 0, 0) 2 0 → (o1 = none → L_89_24 V g Y l1 Q) ∧ (∀ u2, o1 = some u2 → ((2000 ≤ (fI Y (9, 0, 0) 3)) → L_89_24 V g Y l1 Q) ∧ (¬ (2000 ≤ (fI Y (9, 0, 0) 3)) → L_114_0 V g Y l1 (fun x4 Y3 => ((x4 = 0) → L_89_24 V g Y3 l1 Q) ∧ (¬ (x4 = 0) → ∀ o5, o5 = fR Y3 (9, 0, 0) 2 0 → ∃ u6, o5 = some u6 ∧ L_48_0 V g Y3 u6 l1 (fun x8 Y7 => ((x8 = (-1)) → L_89_50 V g Y7 l1 x8 Q) ∧ (¬ (x8 = (-1)) → ∀ Y9, Y9 = uI Y7 (9, 0, 0) 3 ((fI Y7 (9, 0, 0) 3) + 1) → L_89_50 V g Y9 l1 x8 Q))))))) : L_89_0 V g Y l1 Q := by
  intro h lv R e0 e1
  refine y_next (pc' := 1) (xst_of (i := (.aload_n 0)) (len := 1) rfl rfl (x_aloadV (xisV_r _) e0)) ?_
  refine z_gR (t := (9, 0, 0)) (k := 2) rfl rfl rfl R (rc_9 R) rfl (fun o1 ho ok_o1 => ?_)
  replace H := H o1 ho
  clear ho
  rcases o1 with _ | u2
  · replace H := H.1 rfl
    refine y_next (pc' := 24) (xst_of (i := (.ifnull 20)) (len := 3) rfl rfl rfl) ?_
    exact H _ _ R e0 e1
  · replace H := H.2 u2 rfl
    have ok_u2 := ok_o1 u2 rfl
    refine y_next (pc' := 7) (xst_of (i := (.ifnull 20)) (len := 3) rfl rfl rfl) ?_
    refine y_next (pc' := 8) (xst_of (i := (.aload_n 0)) (len := 1) rfl rfl (x_aloadV (xisV_r _) e0)) ?_
    refine z_gI (t := (9, 0, 0)) (k := 3) rfl rfl rfl R (rc_9 R) ?_
    refine y_next (pc' := 14) (xst_of (i := (.sipush 2000)) (len := 3) rfl rfl (x_sip (v := 2000) (by decide))) ?_
    by_cases hc : 2000 ≤ (fI Y (9, 0, 0) 3)
    · replace H := H.1 hc
      refine y_next (xst_of (i := (.if_icmp .ge 10)) (len := 3) rfl rfl (xt_icmp_ge (t := 24) rfl hc)) ?_
      exact H _ _ R e0 e1
    · replace H := H.2 hc
      refine y_next (pc' := 17) (xst_of (i := (.if_icmp .ge 10)) (len := 3) rfl rfl (xf_icmp_ge (t := 24) rfl hc)) ?_
      refine y_next (pc' := 18) (xst_of (i := (.iload_n 1)) (len := 1) rfl rfl (x_ilo e1)) ?_
      refine z_cI (k := 114) (i := (.invokestatic 59)) (as := [.int l1]) (rest := []) rfl rfl rfl (H _ _ R rfl) (fun x4 h Y3 R H => ?_)
      by_cases hc : x4 = 0
      · replace H := H.1 hc
        refine y_next (pc' := 24) (xst_of (i := (.ifCond .ne 5)) (len := 3) rfl rfl (xf_if_ne (t := 26) rfl (fun z => z hc))) ?_
        exact H _ _ R e0 e1
      · replace H := H.2 hc
        refine y_next (xst_of (i := (.ifCond .ne 5)) (len := 3) rfl rfl (xt_if_ne (t := 26) rfl hc)) ?_
        refine y_next (pc' := 27) (xst_of (i := (.aload_n 0)) (len := 1) rfl rfl (x_aloadV (xisV_r _) e0)) ?_
        refine z_gR (t := (9, 0, 0)) (k := 2) rfl rfl rfl R (rc_9 R) rfl (fun o5 ho ok_o5 => ?_)
        replace H := H o5 ho
        clear ho
        refine y_next (pc' := 31) (xst_of (i := (.iload_n 1)) (len := 1) rfl rfl (x_ilo e1)) ?_
        obtain ⟨u6, hn, H⟩ := H
        subst hn
        have ok_u6 := ok_o5 u6 rfl
        refine z_cI (k := 48) (i := (.invokevirtual 63)) (as := [.ref (g.2 u6 0), .int l1]) (rest := []) rfl rfl (x_callv rfl rfl (rc_ob R ok_u6 rfl) rfl rfl) (H _ _ R rfl rfl ok_u6) (fun x8 h Y7 R H => ?_)
        refine z_is (i := (.istore_n 2)) (len := 1) (pc' := 35) (q := 2) rfl rfl rfl (by decide) (fun lv1 hlv => ?_)
        have e0 := xs1_A hlv e0 rfl rfl
        have e1 := xs1_B hlv e1 rfl rfl
        have e2 := xs1_N hlv
        clear hlv
        refine y_next (pc' := 36) (xst_of (i := (.iload_n 2)) (len := 1) rfl rfl (x_ilo e2)) ?_
        refine y_next (pc' := 37) (xst_of (i := (.iconst (-1))) (len := 1) rfl rfl (x_ico (v := (-1)) (by decide))) ?_
        by_cases hc : x8 = (-1)
        · replace H := H.1 hc
          refine y_next (xst_of (i := (.if_icmp .eq 13)) (len := 3) rfl rfl (xt_icmp_eq (t := 50) rfl hc)) ?_
          exact H _ _ R e0 e1 e2
        · replace H := H.2 hc
          refine y_next (pc' := 40) (xst_of (i := (.if_icmp .eq 13)) (len := 3) rfl rfl (xf_icmp_eq (t := 50) rfl hc)) ?_
          refine y_next (pc' := 41) (xst_of (i := (.aload_n 0)) (len := 1) rfl rfl (x_aloadV (xisV_r _) e0)) ?_
          refine y_next (pc' := 42) (xst_of (i := .dup) (len := 1) rfl rfl (x_dup rfl)) ?_
          refine z_gI (t := (9, 0, 0)) (k := 3) rfl rfl rfl R (rc_9 R) ?_
          refine y_next (pc' := 46) (xst_of (i := (.iconst 1)) (len := 1) rfl rfl (x_ico (v := 1) (by decide))) ?_
          refine y_next (pc' := 47) (xst_of (i := .iadd) (len := 1) rfl rfl rfl) ?_
          refine z_pI (t := (9, 0, 0)) (k := 3) rfl rfl rfl rfl rfl R (rc_9 R) (fun h Y9 hY R => ?_)
          replace H := H Y9 hY
          clear hY
          exact H _ _ R e0 e1 e2
theorem l_89_24 {V : xV} {g : xG} {Y : xW} {l1 : Int32} {Q : Int32 → xW → Prop} (H : Q (-1) Y) : L_89_24 V g Y l1 Q := by
  intro h lv R e0 e1
  refine y_next (pc' := 25) (xst_of (i := (.iconst (-1))) (len := 1) rfl rfl (x_ico (v := (-1)) (by decide))) ?_
  exact y_ret (xst_of (i := .ireturn) (len := 1) rfl rfl rfl) ⟨_, _, rfl, R, H⟩
theorem l_89_50 {V : xV} {g : xG} {Y : xW} {l1 : Int32} {l2 : Int32} {Q : Int32 → xW → Prop} (H : Q l2 Y) : L_89_50 V g Y l1 l2 Q := by
  intro h lv R e0 e1 e2
  refine y_next (pc' := 51) (xst_of (i := (.iload_n 2)) (len := 1) rfl rfl (x_ilo e2)) ?_
  exact y_ret (xst_of (i := .ireturn) (len := 1) rfl rfl rfl) ⟨_, _, rfl, R, H⟩
theorem l_91_0 {V : xV} {g : xG} {Y : xW} {l1 : Int32} {l2 : Int32} {l3 : Int32} {l4 : Int32} {l5 : Int32} {Q : Int32 → xW → Prop} (H : ∀ o1, o1 = fR Y (9, 0, 0) 2 0 → (o1 = none → L_91_19 V g Y l1 l2 l3 l4 l5 Q) ∧ (∀ u2, o1 = some u2 → L_113_0 V g Y l2 l3 l4 l5 (fun x4 Y3 => ((x4 = 0) → L_91_19 V g Y3 l1 l2 l3 l4 l5 Q) ∧ (¬ (x4 = 0) → ∀ o5, o5 = fR Y3 (9, 0, 0) 2 0 → ∃ u6, o5 = some u6 ∧ L_44_0 V g Y3 u6 l1 (fun o8 Y7 => (o8 = none → ((0 : Int32) = 0 ∨ (0 : Int32) = 1) ∧ Q 0 Y7) ∧ (∀ u9, o8 = some u9 → L_80_0 V g Y7 (xsub u9 0) l2 l3 l4 l5 (fun Y10 => ((1 : Int32) = 0 ∨ (1 : Int32) = 1) ∧ Q 1 Y10))))))) : L_91_0 V g Y l1 l2 l3 l4 l5 Q := by
  intro h lv R e0 e1 e2 e3 e4 e5
  refine y_next (pc' := 1) (xst_of (i := (.aload_n 0)) (len := 1) rfl rfl (x_aloadV (xisV_r _) e0)) ?_
  refine z_gR (t := (9, 0, 0)) (k := 2) rfl rfl rfl R (rc_9 R) rfl (fun o1 ho ok_o1 => ?_)
  replace H := H o1 ho
  clear ho
  rcases o1 with _ | u2
  · replace H := H.1 rfl
    refine y_next (pc' := 19) (xst_of (i := (.ifnull 15)) (len := 3) rfl rfl rfl) ?_
    exact H _ _ R e0 e1 e2 e3 e4 e5
  · replace H := H.2 u2 rfl
    have ok_u2 := ok_o1 u2 rfl
    refine y_next (pc' := 7) (xst_of (i := (.ifnull 15)) (len := 3) rfl rfl rfl) ?_
    refine y_next (pc' := 8) (xst_of (i := (.iload_n 2)) (len := 1) rfl rfl (x_ilo e2)) ?_
    refine y_next (pc' := 9) (xst_of (i := (.iload_n 3)) (len := 1) rfl rfl (x_ilo e3)) ?_
    refine y_next (pc' := 11) (xst_of (i := (.iload 4)) (len := 2) rfl rfl (x_ilo e4)) ?_
    refine y_next (pc' := 13) (xst_of (i := (.iload 5)) (len := 2) rfl rfl (x_ilo e5)) ?_
    refine z_cI (k := 113) (i := (.invokestatic 71)) (as := [.int l2, .int l3, .int l4, .int l5]) (rest := []) rfl rfl rfl (H _ _ R rfl rfl rfl rfl) (fun x4 h Y3 R H => ?_)
    by_cases hc : x4 = 0
    · replace H := H.1 hc
      refine y_next (pc' := 19) (xst_of (i := (.ifCond .ne 5)) (len := 3) rfl rfl (xf_if_ne (t := 21) rfl (fun z => z hc))) ?_
      exact H _ _ R e0 e1 e2 e3 e4 e5
    · replace H := H.2 hc
      refine y_next (xst_of (i := (.ifCond .ne 5)) (len := 3) rfl rfl (xt_if_ne (t := 21) rfl hc)) ?_
      refine y_next (pc' := 22) (xst_of (i := (.aload_n 0)) (len := 1) rfl rfl (x_aloadV (xisV_r _) e0)) ?_
      refine z_gR (t := (9, 0, 0)) (k := 2) rfl rfl rfl R (rc_9 R) rfl (fun o5 ho ok_o5 => ?_)
      replace H := H o5 ho
      clear ho
      refine y_next (pc' := 26) (xst_of (i := (.iload_n 1)) (len := 1) rfl rfl (x_ilo e1)) ?_
      obtain ⟨u6, hn, H⟩ := H
      subst hn
      have ok_u6 := ok_o5 u6 rfl
      refine z_cR (c := 2) (k := 44) (i := (.invokevirtual 75)) (as := [.ref (g.2 u6 0), .int l1]) (rest := []) rfl rfl (x_callv rfl rfl (rc_ob R ok_u6 rfl) rfl rfl) (H _ _ R rfl rfl ok_u6) (fun o8 h Y7 R ok_o8 H => ?_)
      refine z_as (i := (.astore 6)) (len := 2) (pc' := 31) (q := 6) rfl rfl rfl (by decide) (rv_V g o8) (fun lv1 hlv => ?_)
      have e0 := xs1_A hlv e0 rfl rfl
      have e1 := xs1_A hlv e1 rfl rfl
      have e2 := xs1_A hlv e2 rfl rfl
      have e3 := xs1_A hlv e3 rfl rfl
      have e4 := xs1_A hlv e4 rfl rfl
      have e5 := xs1_B hlv e5 rfl rfl
      have e6 := xs1_N hlv
      clear hlv
      refine y_next (pc' := 33) (xst_of (i := (.aload 6)) (len := 2) rfl rfl (x_aloadV (rv_V g o8) e6)) ?_
      rcases o8 with _ | u9
      · replace H := H.1 rfl
        refine y_next (pc' := 36) (xst_of (i := (.ifnonnull 5)) (len := 3) rfl rfl rfl) ?_
        refine y_next (pc' := 37) (xst_of (i := (.iconst 0)) (len := 1) rfl rfl (x_ico (v := 0) (by decide))) ?_
        exact y_ret (xst_of (i := .ireturn) (len := 1) rfl rfl (x_zret rfl H.1)) ⟨_, _, rfl, R, H.2⟩
      · replace H := H.2 u9 rfl
        have ok_u9 := ok_o8 u9 rfl
        refine y_next (pc' := 38) (xst_of (i := (.ifnonnull 5)) (len := 3) rfl rfl rfl) ?_
        refine y_next (pc' := 40) (xst_of (i := (.aload 6)) (len := 2) rfl rfl (x_aloadV (xisV_r _) e6)) ?_
        refine z_gO (t := u9) (k := 0) rfl rfl rfl R ok_u9 ?_
        refine y_next (pc' := 44) (xst_of (i := (.iload_n 2)) (len := 1) rfl rfl (x_ilo e2)) ?_
        refine y_next (pc' := 45) (xst_of (i := (.iload_n 3)) (len := 1) rfl rfl (x_ilo e3)) ?_
        refine y_next (pc' := 47) (xst_of (i := (.iload 4)) (len := 2) rfl rfl (x_ilo e4)) ?_
        refine y_next (pc' := 49) (xst_of (i := (.iload 5)) (len := 2) rfl rfl (x_ilo e5)) ?_
        refine z_cN (k := 80) (i := (.invokevirtual 85)) (as := [.ref (g.2 (xsub u9 0) 0), .int l2, .int l3, .int l4, .int l5]) (rest := []) rfl rfl (x_callv rfl rfl (rc_ob R (rc_sb R ok_u9 (k := 0) rfl rfl) rfl) rfl rfl) (H _ _ R rfl rfl rfl rfl rfl (rc_sb R ok_u9 (k := 0) rfl rfl)) (fun h Y10 R H => ?_)
        refine y_next (pc' := 53) (xst_of (i := (.iconst 1)) (len := 1) rfl rfl (x_ico (v := 1) (by decide))) ?_
        exact y_ret (xst_of (i := .ireturn) (len := 1) rfl rfl (x_zret rfl H.1)) ⟨_, _, rfl, R, H.2⟩
theorem l_91_19 {V : xV} {g : xG} {Y : xW} {l1 : Int32} {l2 : Int32} {l3 : Int32} {l4 : Int32} {l5 : Int32} {Q : Int32 → xW → Prop} (H : ((0 : Int32) = 0 ∨ (0 : Int32) = 1) ∧ Q 0 Y) : L_91_19 V g Y l1 l2 l3 l4 l5 Q := by
  intro h lv R e0 e1 e2 e3 e4 e5
  refine y_next (pc' := 20) (xst_of (i := (.iconst 0)) (len := 1) rfl rfl (x_ico (v := 0) (by decide))) ?_
  exact y_ret (xst_of (i := .ireturn) (len := 1) rfl rfl (x_zret rfl H.1)) ⟨_, _, rfl, R, H.2⟩
theorem l_93_0 {V : xV} {g : xG} {Y : xW} {l1 : Int32} {l2 : Int32} {l3 : Int32} {l4 : Int32} {l5 : Int32} {Q : Int32 → xW → Prop} (H : ∀ o1, o1 = fR Y (9, 0, 0) 2 0 → (o1 = none → L_93_19 V g Y l1 l2 l3 l4 l5 Q) ∧ (∀ u2, o1 = some u2 → L_113_0 V g Y l2 l3 l4 l5 (fun x4 Y3 => ((x4 = 0) → L_93_19 V g Y3 l1 l2 l3 l4 l5 Q) ∧ (¬ (x4 = 0) → ∀ o5, o5 = fR Y3 (9, 0, 0) 2 0 → ∃ u6, o5 = some u6 ∧ L_45_0 V g Y3 u6 l1 (fun o8 Y7 => (o8 = none → ((0 : Int32) = 0 ∨ (0 : Int32) = 1) ∧ Q 0 Y7) ∧ (∀ u9, o8 = some u9 → L_80_0 V g Y7 (xsub u9 1) l2 l3 l4 l5 (fun Y10 => ((1 : Int32) = 0 ∨ (1 : Int32) = 1) ∧ Q 1 Y10))))))) : L_93_0 V g Y l1 l2 l3 l4 l5 Q := by
  intro h lv R e0 e1 e2 e3 e4 e5
  refine y_next (pc' := 1) (xst_of (i := (.aload_n 0)) (len := 1) rfl rfl (x_aloadV (xisV_r _) e0)) ?_
  refine z_gR (t := (9, 0, 0)) (k := 2) rfl rfl rfl R (rc_9 R) rfl (fun o1 ho ok_o1 => ?_)
  replace H := H o1 ho
  clear ho
  rcases o1 with _ | u2
  · replace H := H.1 rfl
    refine y_next (pc' := 19) (xst_of (i := (.ifnull 15)) (len := 3) rfl rfl rfl) ?_
    exact H _ _ R e0 e1 e2 e3 e4 e5
  · replace H := H.2 u2 rfl
    have ok_u2 := ok_o1 u2 rfl
    refine y_next (pc' := 7) (xst_of (i := (.ifnull 15)) (len := 3) rfl rfl rfl) ?_
    refine y_next (pc' := 8) (xst_of (i := (.iload_n 2)) (len := 1) rfl rfl (x_ilo e2)) ?_
    refine y_next (pc' := 9) (xst_of (i := (.iload_n 3)) (len := 1) rfl rfl (x_ilo e3)) ?_
    refine y_next (pc' := 11) (xst_of (i := (.iload 4)) (len := 2) rfl rfl (x_ilo e4)) ?_
    refine y_next (pc' := 13) (xst_of (i := (.iload 5)) (len := 2) rfl rfl (x_ilo e5)) ?_
    refine z_cI (k := 113) (i := (.invokestatic 71)) (as := [.int l2, .int l3, .int l4, .int l5]) (rest := []) rfl rfl rfl (H _ _ R rfl rfl rfl rfl) (fun x4 h Y3 R H => ?_)
    by_cases hc : x4 = 0
    · replace H := H.1 hc
      refine y_next (pc' := 19) (xst_of (i := (.ifCond .ne 5)) (len := 3) rfl rfl (xf_if_ne (t := 21) rfl (fun z => z hc))) ?_
      exact H _ _ R e0 e1 e2 e3 e4 e5
    · replace H := H.2 hc
      refine y_next (xst_of (i := (.ifCond .ne 5)) (len := 3) rfl rfl (xt_if_ne (t := 21) rfl hc)) ?_
      refine y_next (pc' := 22) (xst_of (i := (.aload_n 0)) (len := 1) rfl rfl (x_aloadV (xisV_r _) e0)) ?_
      refine z_gR (t := (9, 0, 0)) (k := 2) rfl rfl rfl R (rc_9 R) rfl (fun o5 ho ok_o5 => ?_)
      replace H := H o5 ho
      clear ho
      refine y_next (pc' := 26) (xst_of (i := (.iload_n 1)) (len := 1) rfl rfl (x_ilo e1)) ?_
      obtain ⟨u6, hn, H⟩ := H
      subst hn
      have ok_u6 := ok_o5 u6 rfl
      refine z_cR (c := 0) (k := 45) (i := (.invokevirtual 94)) (as := [.ref (g.2 u6 0), .int l1]) (rest := []) rfl rfl (x_callv rfl rfl (rc_ob R ok_u6 rfl) rfl rfl) (H _ _ R rfl rfl ok_u6) (fun o8 h Y7 R ok_o8 H => ?_)
      refine z_as (i := (.astore 6)) (len := 2) (pc' := 31) (q := 6) rfl rfl rfl (by decide) (rv_V g o8) (fun lv1 hlv => ?_)
      have e0 := xs1_A hlv e0 rfl rfl
      have e1 := xs1_A hlv e1 rfl rfl
      have e2 := xs1_A hlv e2 rfl rfl
      have e3 := xs1_A hlv e3 rfl rfl
      have e4 := xs1_A hlv e4 rfl rfl
      have e5 := xs1_B hlv e5 rfl rfl
      have e6 := xs1_N hlv
      clear hlv
      refine y_next (pc' := 33) (xst_of (i := (.aload 6)) (len := 2) rfl rfl (x_aloadV (rv_V g o8) e6)) ?_
      rcases o8 with _ | u9
      · replace H := H.1 rfl
        refine y_next (pc' := 36) (xst_of (i := (.ifnonnull 5)) (len := 3) rfl rfl rfl) ?_
        refine y_next (pc' := 37) (xst_of (i := (.iconst 0)) (len := 1) rfl rfl (x_ico (v := 0) (by decide))) ?_
        exact y_ret (xst_of (i := .ireturn) (len := 1) rfl rfl (x_zret rfl H.1)) ⟨_, _, rfl, R, H.2⟩
      · replace H := H.2 u9 rfl
        have ok_u9 := ok_o8 u9 rfl
        refine y_next (pc' := 38) (xst_of (i := (.ifnonnull 5)) (len := 3) rfl rfl rfl) ?_
        refine y_next (pc' := 40) (xst_of (i := (.aload 6)) (len := 2) rfl rfl (x_aloadV (xisV_r _) e6)) ?_
        refine z_gO (t := u9) (k := 1) rfl rfl rfl R ok_u9 ?_
        refine y_next (pc' := 44) (xst_of (i := (.iload_n 2)) (len := 1) rfl rfl (x_ilo e2)) ?_
        refine y_next (pc' := 45) (xst_of (i := (.iload_n 3)) (len := 1) rfl rfl (x_ilo e3)) ?_
        refine y_next (pc' := 47) (xst_of (i := (.iload 4)) (len := 2) rfl rfl (x_ilo e4)) ?_
        refine y_next (pc' := 49) (xst_of (i := (.iload 5)) (len := 2) rfl rfl (x_ilo e5)) ?_
        refine z_cN (k := 80) (i := (.invokevirtual 85)) (as := [.ref (g.2 (xsub u9 1) 0), .int l2, .int l3, .int l4, .int l5]) (rest := []) rfl rfl (x_callv rfl rfl (rc_ob R (rc_sb R ok_u9 (k := 1) rfl rfl) rfl) rfl rfl) (H _ _ R rfl rfl rfl rfl rfl (rc_sb R ok_u9 (k := 1) rfl rfl)) (fun h Y10 R H => ?_)
        refine y_next (pc' := 53) (xst_of (i := (.iconst 1)) (len := 1) rfl rfl (x_ico (v := 1) (by decide))) ?_
        exact y_ret (xst_of (i := .ireturn) (len := 1) rfl rfl (x_zret rfl H.1)) ⟨_, _, rfl, R, H.2⟩
theorem l_93_19 {V : xV} {g : xG} {Y : xW} {l1 : Int32} {l2 : Int32} {l3 : Int32} {l4 : Int32} {l5 : Int32} {Q : Int32 → xW → Prop} (H : ((0 : Int32) = 0 ∨ (0 : Int32) = 1) ∧ Q 0 Y) : L_93_19 V g Y l1 l2 l3 l4 l5 Q := by
  intro h lv R e0 e1 e2 e3 e4 e5
  refine y_next (pc' := 20) (xst_of (i := (.iconst 0)) (len := 1) rfl rfl (x_ico (v := 0) (by decide))) ?_
  exact y_ret (xst_of (i := .ireturn) (len := 1) rfl rfl (x_zret rfl H.1)) ⟨_, _, rfl, R, H.2⟩
theorem l_95_0 {V : xV} {g : xG} {Y : xW}  {Q : Int32 → xW → Prop} (H : ∀ o1, o1 = fR Y (9, 0, 0) 2 0 → (o1 = none → Q (-1) Y) ∧ (∀ u2, o1 = some u2 → ∀ o3, o3 = fR Y (9, 0, 0) 2 0 → ∃ u4, o3 = some u4 ∧ L_2_0 V g Y u4 (fun x6 Y5 => ∀ o7, o7 = fR Y5 (9, 0, 0) 2 0 → ∃ u8, o7 = some u8 ∧ L_52_0 V g Y5 u8 x6 (fun Y9 => ∀ Y10, Y10 = uR Y9 (9, 0, 0) 2 0 none → Q x6 Y10)))) : L_95_0 V g Y  Q := by
  intro h lv R e0
  refine y_next (pc' := 1) (xst_of (i := (.aload_n 0)) (len := 1) rfl rfl (x_aloadV (xisV_r _) e0)) ?_
  refine z_gR (t := (9, 0, 0)) (k := 2) rfl rfl rfl R (rc_9 R) rfl (fun o1 ho ok_o1 => ?_)
  replace H := H o1 ho
  clear ho
  rcases o1 with _ | u2
  · replace H := H.1 rfl
    refine y_next (pc' := 7) (xst_of (i := (.ifnonnull 5)) (len := 3) rfl rfl rfl) ?_
    refine y_next (pc' := 8) (xst_of (i := (.iconst (-1))) (len := 1) rfl rfl (x_ico (v := (-1)) (by decide))) ?_
    exact y_ret (xst_of (i := .ireturn) (len := 1) rfl rfl rfl) ⟨_, _, rfl, R, H⟩
  · replace H := H.2 u2 rfl
    have ok_u2 := ok_o1 u2 rfl
    refine y_next (pc' := 9) (xst_of (i := (.ifnonnull 5)) (len := 3) rfl rfl rfl) ?_
    refine y_next (pc' := 10) (xst_of (i := (.aload_n 0)) (len := 1) rfl rfl (x_aloadV (xisV_r _) e0)) ?_
    refine z_gO (t := (9, 0, 0)) (k := 4) rfl rfl rfl R (rc_9 R) ?_
    refine y_next (pc' := 14) (xst_of (i := (.aload_n 0)) (len := 1) rfl rfl (x_aloadV (xisV_r _) e0)) ?_
    refine z_gR (t := (9, 0, 0)) (k := 2) rfl rfl rfl R (rc_9 R) rfl (fun o3 ho ok_o3 => ?_)
    replace H := H o3 ho
    clear ho
    obtain ⟨u4, hn, H⟩ := H
    subst hn
    have ok_u4 := ok_o3 u4 rfl
    refine z_cI (k := 2) (i := (.invokevirtual 120)) (as := [.ref (g.2 (1, 0, 0) 0), .ref (g.2 u4 0)]) (rest := []) rfl rfl (x_callv rfl rfl (rc_ob R (rc_1 R) rfl) rfl rfl) (H _ _ R rfl rfl ok_u4) (fun x6 h Y5 R H => ?_)
    refine z_is (i := (.istore_n 1)) (len := 1) (pc' := 21) (q := 1) rfl rfl rfl (by decide) (fun lv1 hlv => ?_)
    have e0 := xs1_B hlv e0 rfl rfl
    have e1 := xs1_N hlv
    clear hlv
    refine y_next (pc' := 22) (xst_of (i := (.aload_n 0)) (len := 1) rfl rfl (x_aloadV (xisV_r _) e0)) ?_
    refine z_gR (t := (9, 0, 0)) (k := 2) rfl rfl rfl R (rc_9 R) rfl (fun o7 ho ok_o7 => ?_)
    replace H := H o7 ho
    clear ho
    refine y_next (pc' := 26) (xst_of (i := (.iload_n 1)) (len := 1) rfl rfl (x_ilo e1)) ?_
    obtain ⟨u8, hn, H⟩ := H
    subst hn
    have ok_u8 := ok_o7 u8 rfl
    refine z_cN (k := 52) (i := (.invokevirtual 124)) (as := [.ref (g.2 u8 0), .int x6]) (rest := []) rfl rfl (x_callv rfl rfl (rc_ob R ok_u8 rfl) rfl rfl) (H _ _ R rfl rfl ok_u8) (fun h Y9 R H => ?_)
    refine y_next (pc' := 30) (xst_of (i := (.aload_n 0)) (len := 1) rfl rfl (x_aloadV (xisV_r _) e0)) ?_
    refine y_next (pc' := 31) (xst_of (i := .aconst_null) (len := 1) rfl rfl rfl) ?_
    refine z_pR (t := (9, 0, 0)) (k := 2) (o := none) rfl rfl rfl rfl rfl rfl rfl R (rc_9 R) ok_n (fun h Y10 hY R => ?_)
    replace H := H Y10 hY
    clear hY
    refine y_next (pc' := 35) (xst_of (i := (.iload_n 1)) (len := 1) rfl rfl (x_ilo e1)) ?_
    exact y_ret (xst_of (i := .ireturn) (len := 1) rfl rfl rfl) ⟨_, _, rfl, R, H⟩
theorem l_96_0 {V : xV} {g : xG} {Y : xW} {l1 : Int32} {l2 : Int32} {Q : Int32 → xW → Prop} {E : Nat → xW → Prop} (H : L_108_0 V g Y l1 (fun o2 Y1 => (o2 = none → E 100 (uT Y1)) ∧ (∀ u3, o2 = some u3 → ((l2 = 0 → Q (fI Y1 u3 8) Y1) ∧ (l2 = 1 → Q (fI Y1 u3 0) Y1) ∧ (l2 = 2 → Q (fI Y1 u3 5) Y1) ∧ (l2 = 3 → Q (fI Y1 u3 6) Y1) ∧ (l2 = 4 → Q (fI Y1 u3 7) Y1) ∧ (l2 = 5 → Q (fI Y1 u3 9) Y1) ∧ (l2 = 6 → L_53_0 V g Y1 u3 (fun x5 Y4 => Q x5 Y4))) ∧ ((Int32.toInt l2 < 0 ∨ 6 < Int32.toInt l2) → E 100 (uT Y1))))) : L_96_0 V g Y l1 l2 Q E := by
  intro h lv R e0 e1 e2
  refine y_next (pc' := 1) (xst_of (i := (.aload_n 0)) (len := 1) rfl rfl (x_aloadV (xisV_r _) e0)) ?_
  refine y_next (pc' := 2) (xst_of (i := (.iload_n 1)) (len := 1) rfl rfl (x_ilo e1)) ?_
  refine z_cR (c := 5) (k := 108) (i := (.invokevirtual 127)) (as := [.ref (g.2 (9, 0, 0) 0), .int l1]) (rest := []) rfl rfl (x_callv rfl rfl (rc_ob R (rc_9 R) rfl) rfl rfl) (H _ _ R rfl rfl) (fun o2 h Y1 R ok_o2 H => ?_)
  refine z_as (i := (.astore_n 3)) (len := 1) (pc' := 6) (q := 3) rfl rfl rfl (by decide) (rv_V g o2) (fun lv1 hlv => ?_)
  have e0 := xs1_A hlv e0 rfl rfl
  have e1 := xs1_A hlv e1 rfl rfl
  have e2 := xs1_B hlv e2 rfl rfl
  have e3 := xs1_N hlv
  clear hlv
  refine y_next (pc' := 7) (xst_of (i := (.aload_n 3)) (len := 1) rfl rfl (x_aloadV (rv_V g o2) e3)) ?_
  rcases o2 with _ | u3
  · replace H := H.1 rfl
    refine y_next (pc' := 10) (xst_of (i := (.ifnonnull 13)) (len := 3) rfl rfl rfl) ?_
    exact y_thr (xst_of (i := (.new 130)) (len := 3) rfl rfl rfl) (Or.inr ⟨_, _, rfl, rc_t6 R, H⟩)
  · replace H := H.2 u3 rfl
    have ok_u3 := ok_o2 u3 rfl
    refine y_next (pc' := 20) (xst_of (i := (.ifnonnull 13)) (len := 3) rfl rfl rfl) ?_
    refine y_next (pc' := 21) (xst_of (i := (.iload_n 2)) (len := 1) rfl rfl (x_ilo e2)) ?_
    by_cases hx : Int32.toInt l2 < 0 ∨ 6 < Int32.toInt l2
    · replace H := H.2 hx
      refine y_next (xst_of (i := (.tableswitch 78 0 6 #[43, 48, 53, 58, 63, 68, 73])) (len := 43) rfl rfl (x_sw_out (t := 99) hx rfl)) ?_
      exact y_thr (xst_of (i := (.new 130)) (len := 3) rfl rfl rfl) (Or.inr ⟨_, _, rfl, rc_t6 R, H⟩)
    · replace H := H.1
      have hy : Int32.toInt l2 = 0 ∨ Int32.toInt l2 = 1 ∨ Int32.toInt l2 = 2 ∨ Int32.toInt l2 = 3 ∨ Int32.toInt l2 = 4 ∨ Int32.toInt l2 = 5 ∨ Int32.toInt l2 = 6 := by omega
      rcases hy with hy | hy | hy | hy | hy | hy | hy
      · replace H := H.1
        have hz : l2 = 0 := Int32.toInt_inj.mp (hy.trans rfl)
        replace H := H hz
        refine y_next (xst_of (i := (.tableswitch 78 0 6 #[43, 48, 53, 58, 63, 68, 73])) (len := 43) rfl rfl (x_sw_in (t := 64) hx (by rw [hy]; rfl) rfl)) ?_
        refine y_next (pc' := 65) (xst_of (i := (.aload_n 3)) (len := 1) rfl rfl (x_aloadV (xisV_r _) e3)) ?_
        refine z_gI (t := u3) (k := 8) rfl rfl rfl R ok_u3 ?_
        exact y_ret (xst_of (i := .ireturn) (len := 1) rfl rfl rfl) (Or.inl ⟨_, _, rfl, R, H⟩)
      · replace H := H.2.1
        have hz : l2 = 1 := Int32.toInt_inj.mp (hy.trans rfl)
        replace H := H hz
        refine y_next (xst_of (i := (.tableswitch 78 0 6 #[43, 48, 53, 58, 63, 68, 73])) (len := 43) rfl rfl (x_sw_in (t := 69) hx (by rw [hy]; rfl) rfl)) ?_
        refine y_next (pc' := 70) (xst_of (i := (.aload_n 3)) (len := 1) rfl rfl (x_aloadV (xisV_r _) e3)) ?_
        refine z_gI (t := u3) (k := 0) rfl rfl rfl R ok_u3 ?_
        exact y_ret (xst_of (i := .ireturn) (len := 1) rfl rfl rfl) (Or.inl ⟨_, _, rfl, R, H⟩)
      · replace H := H.2.2.1
        have hz : l2 = 2 := Int32.toInt_inj.mp (hy.trans rfl)
        replace H := H hz
        refine y_next (xst_of (i := (.tableswitch 78 0 6 #[43, 48, 53, 58, 63, 68, 73])) (len := 43) rfl rfl (x_sw_in (t := 74) hx (by rw [hy]; rfl) rfl)) ?_
        refine y_next (pc' := 75) (xst_of (i := (.aload_n 3)) (len := 1) rfl rfl (x_aloadV (xisV_r _) e3)) ?_
        refine z_gI (t := u3) (k := 5) rfl rfl rfl R ok_u3 ?_
        exact y_ret (xst_of (i := .ireturn) (len := 1) rfl rfl rfl) (Or.inl ⟨_, _, rfl, R, H⟩)
      · replace H := H.2.2.2.1
        have hz : l2 = 3 := Int32.toInt_inj.mp (hy.trans rfl)
        replace H := H hz
        refine y_next (xst_of (i := (.tableswitch 78 0 6 #[43, 48, 53, 58, 63, 68, 73])) (len := 43) rfl rfl (x_sw_in (t := 79) hx (by rw [hy]; rfl) rfl)) ?_
        refine y_next (pc' := 80) (xst_of (i := (.aload_n 3)) (len := 1) rfl rfl (x_aloadV (xisV_r _) e3)) ?_
        refine z_gI (t := u3) (k := 6) rfl rfl rfl R ok_u3 ?_
        exact y_ret (xst_of (i := .ireturn) (len := 1) rfl rfl rfl) (Or.inl ⟨_, _, rfl, R, H⟩)
      · replace H := H.2.2.2.2.1
        have hz : l2 = 4 := Int32.toInt_inj.mp (hy.trans rfl)
        replace H := H hz
        refine y_next (xst_of (i := (.tableswitch 78 0 6 #[43, 48, 53, 58, 63, 68, 73])) (len := 43) rfl rfl (x_sw_in (t := 84) hx (by rw [hy]; rfl) rfl)) ?_
        refine y_next (pc' := 85) (xst_of (i := (.aload_n 3)) (len := 1) rfl rfl (x_aloadV (xisV_r _) e3)) ?_
        refine z_gI (t := u3) (k := 7) rfl rfl rfl R ok_u3 ?_
        exact y_ret (xst_of (i := .ireturn) (len := 1) rfl rfl rfl) (Or.inl ⟨_, _, rfl, R, H⟩)
      · replace H := H.2.2.2.2.2.1
        have hz : l2 = 5 := Int32.toInt_inj.mp (hy.trans rfl)
        replace H := H hz
        refine y_next (xst_of (i := (.tableswitch 78 0 6 #[43, 48, 53, 58, 63, 68, 73])) (len := 43) rfl rfl (x_sw_in (t := 89) hx (by rw [hy]; rfl) rfl)) ?_
        refine y_next (pc' := 90) (xst_of (i := (.aload_n 3)) (len := 1) rfl rfl (x_aloadV (xisV_r _) e3)) ?_
        refine z_gI (t := u3) (k := 9) rfl rfl rfl R ok_u3 ?_
        exact y_ret (xst_of (i := .ireturn) (len := 1) rfl rfl rfl) (Or.inl ⟨_, _, rfl, R, H⟩)
      · replace H := H.2.2.2.2.2.2
        have hz : l2 = 6 := Int32.toInt_inj.mp (hy.trans rfl)
        replace H := H hz
        refine y_next (xst_of (i := (.tableswitch 78 0 6 #[43, 48, 53, 58, 63, 68, 73])) (len := 43) rfl rfl (x_sw_in (t := 94) hx (by rw [hy]; rfl) rfl)) ?_
        refine y_next (pc' := 95) (xst_of (i := (.aload_n 3)) (len := 1) rfl rfl (x_aloadV (xisV_r _) e3)) ?_
        refine z_cI (k := 53) (i := (.invokevirtual 150)) (as := [.ref (g.2 u3 0)]) (rest := []) rfl rfl (x_callv rfl rfl (rc_ob R ok_u3 rfl) rfl rfl) (H _ _ R rfl ok_u3) (fun x5 h Y4 R H => ?_)
        exact y_ret (xst_of (i := .ireturn) (len := 1) rfl rfl rfl) (Or.inl ⟨_, _, rfl, R, H⟩)
theorem l_98_0 {V : xV} {g : xG} {Y : xW}  {Q : Int32 → xW → Prop} (H : L_59_0 V g Y 0 (fun x2 Y1 => L_110_0 V g Y1 x2 (fun o4 Y3 => (o4 = none → Q (-1) Y3) ∧ (∀ u5, o4 = some u5 → L_108_0 V g Y3 (fI Y3 u5 5) (fun o7 Y6 => (o7 = none → Q (-1) Y6) ∧ (∀ u8, o7 = some u8 → L_32_0 V g Y6 u5 u8 (fun x10 Y9 => ∀ Y11, Y11 = uI Y9 (9, 0, 0) 11 ((fI Y9 (9, 0, 0) 11) + 1) → ∀ Y12, Y12 = uI Y11 (9, 0, 0) 10 ((fI Y11 (9, 0, 0) 10) + 1) → ((x10 = 0) → L_111_0 V g Y12 u5 0 1 (fun Y13 => L_98_111 V g Y13 x2 (some u5) (some u8) x10 Q)) ∧ (¬ (x10 = 0) → ((x10 = 1) → L_98_99 V g Y12 x2 (some u5) (some u8) x10 Q) ∧ (¬ (x10 = 1) → (((fI Y12 (9, 0, 0) 10) < (fI Y12 (9, 0, 0) 9)) → L_98_111 V g Y12 x2 (some u5) (some u8) x10 Q) ∧ (¬ ((fI Y12 (9, 0, 0) 10) < (fI Y12 (9, 0, 0) 9)) → L_98_99 V g Y12 x2 (some u5) (some u8) x10 Q)))))))))) : L_98_0 V g Y  Q := by
  intro h lv R e0
  refine y_next (pc' := 1) (xst_of (i := (.aload_n 0)) (len := 1) rfl rfl (x_aloadV (xisV_r _) e0)) ?_
  refine z_gO (t := (9, 0, 0)) (k := 8) rfl rfl rfl R (rc_9 R) ?_
  refine y_next (pc' := 5) (xst_of (i := (.iconst 0)) (len := 1) rfl rfl (x_ico (v := 0) (by decide))) ?_
  refine z_cI (k := 59) (i := (.invokevirtual 174)) (as := [.ref (g.2 (6, 0, 0) 0), .int 0]) (rest := []) rfl rfl (x_callv rfl rfl (rc_ob R (rc_6 R) rfl) rfl rfl) (H _ _ R rfl rfl) (fun x2 h Y1 R H => ?_)
  refine z_is (i := (.istore_n 1)) (len := 1) (pc' := 9) (q := 1) rfl rfl rfl (by decide) (fun lv1 hlv => ?_)
  have e0 := xs1_B hlv e0 rfl rfl
  have e1 := xs1_N hlv
  clear hlv
  refine y_next (pc' := 10) (xst_of (i := (.aload_n 0)) (len := 1) rfl rfl (x_aloadV (xisV_r _) e0)) ?_
  refine y_next (pc' := 11) (xst_of (i := (.iload_n 1)) (len := 1) rfl rfl (x_ilo e1)) ?_
  refine z_cR (c := 4) (k := 110) (i := (.invokevirtual 177)) (as := [.ref (g.2 (9, 0, 0) 0), .int x2]) (rest := []) rfl rfl (x_callv rfl rfl (rc_ob R (rc_9 R) rfl) rfl rfl) (H _ _ R rfl rfl) (fun o4 h Y3 R ok_o4 H => ?_)
  refine z_as (i := (.astore_n 2)) (len := 1) (pc' := 15) (q := 2) rfl rfl rfl (by decide) (rv_V g o4) (fun lv2 hlv => ?_)
  have e0 := xs1_A hlv e0 rfl rfl
  have e1 := xs1_B hlv e1 rfl rfl
  have e2 := xs1_N hlv
  clear hlv
  refine y_next (pc' := 16) (xst_of (i := (.aload_n 2)) (len := 1) rfl rfl (x_aloadV (rv_V g o4) e2)) ?_
  rcases o4 with _ | u5
  · replace H := H.1 rfl
    refine y_next (pc' := 19) (xst_of (i := (.ifnonnull 5)) (len := 3) rfl rfl rfl) ?_
    refine y_next (pc' := 20) (xst_of (i := (.iconst (-1))) (len := 1) rfl rfl (x_ico (v := (-1)) (by decide))) ?_
    exact y_ret (xst_of (i := .ireturn) (len := 1) rfl rfl rfl) ⟨_, _, rfl, R, H⟩
  · replace H := H.2 u5 rfl
    have ok_u5 := ok_o4 u5 rfl
    refine y_next (pc' := 21) (xst_of (i := (.ifnonnull 5)) (len := 3) rfl rfl rfl) ?_
    refine y_next (pc' := 22) (xst_of (i := (.aload_n 0)) (len := 1) rfl rfl (x_aloadV (xisV_r _) e0)) ?_
    refine y_next (pc' := 23) (xst_of (i := (.aload_n 2)) (len := 1) rfl rfl (x_aloadV (xisV_r _) e2)) ?_
    refine z_gI (t := u5) (k := 5) rfl rfl rfl R ok_u5 ?_
    refine z_cR (c := 5) (k := 108) (i := (.invokevirtual 127)) (as := [.ref (g.2 (9, 0, 0) 0), .int (fI Y3 u5 5)]) (rest := []) rfl rfl (x_callv rfl rfl (rc_ob R (rc_9 R) rfl) rfl rfl) (H _ _ R rfl rfl) (fun o7 h Y6 R ok_o7 H => ?_)
    refine z_as (i := (.astore_n 3)) (len := 1) (pc' := 30) (q := 3) rfl rfl rfl (by decide) (rv_V g o7) (fun lv3 hlv => ?_)
    have e0 := xs1_A hlv e0 rfl rfl
    have e1 := xs1_A hlv e1 rfl rfl
    have e2 := xs1_B hlv e2 rfl rfl
    have e3 := xs1_N hlv
    clear hlv
    refine y_next (pc' := 31) (xst_of (i := (.aload_n 3)) (len := 1) rfl rfl (x_aloadV (rv_V g o7) e3)) ?_
    rcases o7 with _ | u8
    · replace H := H.1 rfl
      refine y_next (pc' := 34) (xst_of (i := (.ifnonnull 5)) (len := 3) rfl rfl rfl) ?_
      refine y_next (pc' := 35) (xst_of (i := (.iconst (-1))) (len := 1) rfl rfl (x_ico (v := (-1)) (by decide))) ?_
      exact y_ret (xst_of (i := .ireturn) (len := 1) rfl rfl rfl) ⟨_, _, rfl, R, H⟩
    · replace H := H.2 u8 rfl
      have ok_u8 := ok_o7 u8 rfl
      refine y_next (pc' := 36) (xst_of (i := (.ifnonnull 5)) (len := 3) rfl rfl rfl) ?_
      refine y_next (pc' := 37) (xst_of (i := (.aload_n 2)) (len := 1) rfl rfl (x_aloadV (xisV_r _) e2)) ?_
      refine y_next (pc' := 38) (xst_of (i := (.aload_n 3)) (len := 1) rfl rfl (x_aloadV (xisV_r _) e3)) ?_
      refine y_next (pc' := 39) (xst_of (i := (.aload_n 0)) (len := 1) rfl rfl (x_aloadV (xisV_r _) e0)) ?_
      refine z_gO (t := (9, 0, 0)) (k := 7) rfl rfl rfl R (rc_9 R) ?_
      refine z_cI (k := 32) (i := (.invokevirtual 184)) (as := [.ref (g.2 u5 0), .ref (g.2 u8 0), .ref (g.2 (7, 0, 0) 0)]) (rest := []) rfl rfl (x_callv rfl rfl (rc_ob R ok_u5 rfl) rfl rfl) (H _ _ R rfl rfl rfl ok_u5 ok_u8) (fun x10 h Y9 R H => ?_)
      refine z_is (i := (.istore 4)) (len := 2) (pc' := 47) (q := 4) rfl rfl rfl (by decide) (fun lv4 hlv => ?_)
      have e0 := xs1_A hlv e0 rfl rfl
      have e1 := xs1_A hlv e1 rfl rfl
      have e2 := xs1_A hlv e2 rfl rfl
      have e3 := xs1_B hlv e3 rfl rfl
      have e4 := xs1_N hlv
      clear hlv
      refine y_next (pc' := 48) (xst_of (i := (.aload_n 0)) (len := 1) rfl rfl (x_aloadV (xisV_r _) e0)) ?_
      refine y_next (pc' := 49) (xst_of (i := .dup) (len := 1) rfl rfl (x_dup rfl)) ?_
      refine z_gI (t := (9, 0, 0)) (k := 11) rfl rfl rfl R (rc_9 R) ?_
      refine y_next (pc' := 53) (xst_of (i := (.iconst 1)) (len := 1) rfl rfl (x_ico (v := 1) (by decide))) ?_
      refine y_next (pc' := 54) (xst_of (i := .iadd) (len := 1) rfl rfl rfl) ?_
      refine z_pI (t := (9, 0, 0)) (k := 11) rfl rfl rfl rfl rfl R (rc_9 R) (fun h Y11 hY R => ?_)
      replace H := H Y11 hY
      clear hY
      refine y_next (pc' := 58) (xst_of (i := (.aload_n 0)) (len := 1) rfl rfl (x_aloadV (xisV_r _) e0)) ?_
      refine y_next (pc' := 59) (xst_of (i := .dup) (len := 1) rfl rfl (x_dup rfl)) ?_
      refine z_gI (t := (9, 0, 0)) (k := 10) rfl rfl rfl R (rc_9 R) ?_
      refine y_next (pc' := 63) (xst_of (i := (.iconst 1)) (len := 1) rfl rfl (x_ico (v := 1) (by decide))) ?_
      refine y_next (pc' := 64) (xst_of (i := .iadd) (len := 1) rfl rfl rfl) ?_
      refine z_pI (t := (9, 0, 0)) (k := 10) rfl rfl rfl rfl rfl R (rc_9 R) (fun h Y12 hY R => ?_)
      replace H := H Y12 hY
      clear hY
      refine y_next (pc' := 69) (xst_of (i := (.iload 4)) (len := 2) rfl rfl (x_ilo e4)) ?_
      by_cases hc : x10 = 0
      · replace H := H.1 hc
        refine y_next (pc' := 72) (xst_of (i := (.ifCond .ne 13)) (len := 3) rfl rfl (xf_if_ne (t := 82) rfl (fun z => z hc))) ?_
        refine y_next (pc' := 73) (xst_of (i := (.aload_n 0)) (len := 1) rfl rfl (x_aloadV (xisV_r _) e0)) ?_
        refine y_next (pc' := 74) (xst_of (i := (.aload_n 2)) (len := 1) rfl rfl (x_aloadV (xisV_r _) e2)) ?_
        refine y_next (pc' := 75) (xst_of (i := (.iconst 0)) (len := 1) rfl rfl (x_ico (v := 0) (by decide))) ?_
        refine y_next (pc' := 76) (xst_of (i := (.iconst 1)) (len := 1) rfl rfl (x_ico (v := 1) (by decide))) ?_
        refine z_cN (k := 111) (i := (.invokevirtual 194)) (as := [.ref (g.2 (9, 0, 0) 0), .ref (g.2 u5 0), .int 0, .int 1]) (rest := []) rfl rfl (x_callv rfl rfl (rc_ob R (rc_9 R) rfl) rfl rfl) (H _ _ R rfl rfl rfl rfl ok_u5) (fun h Y13 R H => ?_)
        refine y_next (pc' := 111) (xst_of (i := (.goto 32)) (len := 3) rfl rfl rfl) ?_
        exact H _ _ R e0 e1 e2 e3 e4 (ok_s ok_u5) (ok_s ok_u8)
      · replace H := H.2 hc
        refine y_next (xst_of (i := (.ifCond .ne 13)) (len := 3) rfl rfl (xt_if_ne (t := 82) rfl hc)) ?_
        refine y_next (pc' := 84) (xst_of (i := (.iload 4)) (len := 2) rfl rfl (x_ilo e4)) ?_
        refine y_next (pc' := 85) (xst_of (i := (.iconst 1)) (len := 1) rfl rfl (x_ico (v := 1) (by decide))) ?_
        by_cases hc : x10 = 1
        · replace H := H.1 hc
          refine y_next (xst_of (i := (.if_icmp .eq 14)) (len := 3) rfl rfl (xt_icmp_eq (t := 99) rfl hc)) ?_
          exact H _ _ R e0 e1 e2 e3 e4 (ok_s ok_u5) (ok_s ok_u8)
        · replace H := H.2 hc
          refine y_next (pc' := 88) (xst_of (i := (.if_icmp .eq 14)) (len := 3) rfl rfl (xf_icmp_eq (t := 99) rfl hc)) ?_
          refine y_next (pc' := 89) (xst_of (i := (.aload_n 0)) (len := 1) rfl rfl (x_aloadV (xisV_r _) e0)) ?_
          refine z_gI (t := (9, 0, 0)) (k := 10) rfl rfl rfl R (rc_9 R) ?_
          refine y_next (pc' := 93) (xst_of (i := (.aload_n 0)) (len := 1) rfl rfl (x_aloadV (xisV_r _) e0)) ?_
          refine z_gI (t := (9, 0, 0)) (k := 9) rfl rfl rfl R (rc_9 R) ?_
          by_cases hc : (fI Y12 (9, 0, 0) 10) < (fI Y12 (9, 0, 0) 9)
          · replace H := H.1 hc
            refine y_next (xst_of (i := (.if_icmp .lt 15)) (len := 3) rfl rfl (xt_icmp_lt (t := 111) rfl hc)) ?_
            exact H _ _ R e0 e1 e2 e3 e4 (ok_s ok_u5) (ok_s ok_u8)
          · replace H := H.2 hc
            refine y_next (pc' := 99) (xst_of (i := (.if_icmp .lt 15)) (len := 3) rfl rfl (xf_icmp_lt (t := 111) rfl hc)) ?_
            exact H _ _ R e0 e1 e2 e3 e4 (ok_s ok_u5) (ok_s ok_u8)
theorem l_98_99 {V : xV} {g : xG} {Y : xW} {l1 : Int32} {l2 : Option xT} {l3 : Option xT} {l4 : Int32} {Q : Int32 → xW → Prop} (H : L_62_0 V g Y  (fun Y1 => ∀ Y2, Y2 = uI Y1 (9, 0, 0) 10 0 → L_98_111 V g Y2 l1 l2 l3 l4 Q)) : L_98_99 V g Y l1 l2 l3 l4 Q := by
  intro h lv R e0 e1 e2 e3 e4 ok_l2 ok_l3
  refine y_next (pc' := 100) (xst_of (i := (.aload_n 0)) (len := 1) rfl rfl (x_aloadV (xisV_r _) e0)) ?_
  refine z_gO (t := (9, 0, 0)) (k := 8) rfl rfl rfl R (rc_9 R) ?_
  refine z_cN (k := 62) (i := (.invokevirtual 198)) (as := [.ref (g.2 (6, 0, 0) 0)]) (rest := []) rfl rfl (x_callv rfl rfl (rc_ob R (rc_6 R) rfl) rfl rfl) (H _ _ R rfl) (fun h Y1 R H => ?_)
  refine y_next (pc' := 107) (xst_of (i := (.aload_n 0)) (len := 1) rfl rfl (x_aloadV (xisV_r _) e0)) ?_
  refine y_next (pc' := 108) (xst_of (i := (.iconst 0)) (len := 1) rfl rfl (x_ico (v := 0) (by decide))) ?_
  refine z_pI (t := (9, 0, 0)) (k := 10) rfl rfl rfl rfl rfl R (rc_9 R) (fun h Y2 hY R => ?_)
  replace H := H Y2 hY
  clear hY
  exact H _ _ R e0 e1 e2 e3 e4 ok_l2 ok_l3
theorem l_98_111 {V : xV} {g : xG} {Y : xW} {l1 : Int32} {l2 : Option xT} {l3 : Option xT} {l4 : Int32} {Q : Int32 → xW → Prop} (H : Q l1 Y) : L_98_111 V g Y l1 l2 l3 l4 Q := by
  intro h lv R e0 e1 e2 e3 e4 ok_l2 ok_l3
  refine y_next (pc' := 112) (xst_of (i := (.iload_n 1)) (len := 1) rfl rfl (x_ilo e1)) ?_
  exact y_ret (xst_of (i := .ireturn) (len := 1) rfl rfl rfl) ⟨_, _, rfl, R, H⟩
theorem l_99_0 {V : xV} {g : xG} {Y : xW} {l1 : Int32} {Q : Int32 → xW → Prop} {E : Nat → xW → Prop} (H : ((l1 < 0) → L_99_11 V g Y l1 Q E) ∧ (¬ (l1 < 0) → ((l1 ≤ 5000) → L_99_23 V g Y l1 0 Q E) ∧ (¬ (l1 ≤ 5000) → L_99_11 V g Y l1 Q E))) : L_99_0 V g Y l1 Q E := by
  intro h lv R e0 e1
  refine y_next (pc' := 1) (xst_of (i := (.iload_n 1)) (len := 1) rfl rfl (x_ilo e1)) ?_
  by_cases hc : l1 < 0
  · replace H := H.1 hc
    refine y_next (xst_of (i := (.ifCond .lt 10)) (len := 3) rfl rfl (xt_if_lt (t := 11) rfl hc)) ?_
    exact H _ _ R e0 e1
  · replace H := H.2 hc
    refine y_next (pc' := 4) (xst_of (i := (.ifCond .lt 10)) (len := 3) rfl rfl (xf_if_lt (t := 11) rfl hc)) ?_
    refine y_next (pc' := 5) (xst_of (i := (.iload_n 1)) (len := 1) rfl rfl (x_ilo e1)) ?_
    refine y_next (pc' := 8) (xst_of (i := (.sipush 5000)) (len := 3) rfl rfl (x_sip (v := 5000) (by decide))) ?_
    by_cases hc : l1 ≤ 5000
    · replace H := H.1 hc
      refine y_next (xst_of (i := (.if_icmp .le 13)) (len := 3) rfl rfl (xt_icmp_le (t := 21) rfl hc)) ?_
      refine y_next (pc' := 22) (xst_of (i := (.iconst 0)) (len := 1) rfl rfl (x_ico (v := 0) (by decide))) ?_
      refine z_is (i := (.istore_n 2)) (len := 1) (pc' := 23) (q := 2) rfl rfl rfl (by decide) (fun lv1 hlv => ?_)
      have e0 := xs1_A hlv e0 rfl rfl
      have e1 := xs1_B hlv e1 rfl rfl
      have e2 := xs1_N hlv
      clear hlv
      exact H _ _ R e0 e1 e2
    · replace H := H.2 hc
      refine y_next (pc' := 11) (xst_of (i := (.if_icmp .le 13)) (len := 3) rfl rfl (xf_icmp_le (t := 21) rfl hc)) ?_
      exact H _ _ R e0 e1
theorem l_99_11 {V : xV} {g : xG} {Y : xW} {l1 : Int32} {Q : Int32 → xW → Prop} {E : Nat → xW → Prop} (H : E 101 (uT Y)) : L_99_11 V g Y l1 Q E := by
  intro h lv R e0 e1
  exact y_thr (xst_of (i := (.new 201)) (len := 3) rfl rfl rfl) (Or.inr ⟨_, _, rfl, rc_t6 R, H⟩)
theorem l_99_23 {V : xV} {g : xG} {Y : xW} {l1 : Int32} {l2 : Int32} {Q : Int32 → xW → Prop} {E : Nat → xW → Prop} (H : ((l1 ≤ l2) → Q l1 Y) ∧ (¬ (l1 ≤ l2) → L_98_0 V g Y  (fun x2 Y1 => ((x2 = (-1)) → Q l2 Y1) ∧ (¬ (x2 = (-1)) → L_99_23 V g Y1 l1 (l2 + 1) Q E)))) : L_99_23 V g Y l1 l2 Q E := by
  intro h lv R e0 e1 e2
  refine y_next (pc' := 24) (xst_of (i := (.iload_n 2)) (len := 1) rfl rfl (x_ilo e2)) ?_
  refine y_next (pc' := 25) (xst_of (i := (.iload_n 1)) (len := 1) rfl rfl (x_ilo e1)) ?_
  by_cases hc : l1 ≤ l2
  · replace H := H.1 hc
    refine y_next (xst_of (i := (.if_icmp .ge 19)) (len := 3) rfl rfl (xt_icmp_ge (t := 44) rfl hc)) ?_
    refine y_next (pc' := 45) (xst_of (i := (.iload_n 1)) (len := 1) rfl rfl (x_ilo e1)) ?_
    exact y_ret (xst_of (i := .ireturn) (len := 1) rfl rfl rfl) (Or.inl ⟨_, _, rfl, R, H⟩)
  · replace H := H.2 hc
    refine y_next (pc' := 28) (xst_of (i := (.if_icmp .ge 19)) (len := 3) rfl rfl (xf_icmp_ge (t := 44) rfl hc)) ?_
    refine y_next (pc' := 29) (xst_of (i := (.aload_n 0)) (len := 1) rfl rfl (x_aloadV (xisV_r _) e0)) ?_
    refine z_cI (k := 98) (i := (.invokevirtual 206)) (as := [.ref (g.2 (9, 0, 0) 0)]) (rest := []) rfl rfl (x_callv rfl rfl (rc_ob R (rc_9 R) rfl) rfl rfl) (H _ _ R rfl) (fun x2 h Y1 R H => ?_)
    refine y_next (pc' := 33) (xst_of (i := (.iconst (-1))) (len := 1) rfl rfl (x_ico (v := (-1)) (by decide))) ?_
    by_cases hc : x2 = (-1)
    · replace H := H.1 hc
      refine y_next (pc' := 36) (xst_of (i := (.if_icmp .ne 5)) (len := 3) rfl rfl (xf_icmp_ne (t := 38) rfl (fun z => z hc))) ?_
      refine y_next (pc' := 37) (xst_of (i := (.iload_n 2)) (len := 1) rfl rfl (x_ilo e2)) ?_
      exact y_ret (xst_of (i := .ireturn) (len := 1) rfl rfl rfl) (Or.inl ⟨_, _, rfl, R, H⟩)
    · replace H := H.2 hc
      refine y_next (xst_of (i := (.if_icmp .ne 5)) (len := 3) rfl rfl (xt_icmp_ne (t := 38) rfl hc)) ?_
      refine z_in (q := 2) (n := 1) (v := 1) rfl e2 (by decide) (by decide) (fun lv1 hlv => ?_)
      have e0 := xs1_A hlv e0 rfl rfl
      have e1 := xs1_B hlv e1 rfl rfl
      have e2 := xs1_N hlv
      clear hlv
      refine y_next (pc' := 23) (xst_of (i := (.goto (-18))) (len := 3) rfl rfl rfl) ?_
      exact H _ _ R e0 e1 e2
theorem l_100_0 {V : xV} {g : xG} {Y : xW} {l1 : Int32} {Q : Int32 → xW → Prop} {E : Nat → xW → Prop} (H : ((l1 < 1) → L_100_11 V g Y l1 Q E) ∧ (¬ (l1 < 1) → ((l1 ≤ 100) → ∀ Y1, Y1 = uI Y (9, 0, 0) 9 l1 → Q (fI Y (9, 0, 0) 9) Y1) ∧ (¬ (l1 ≤ 100) → L_100_11 V g Y l1 Q E))) : L_100_0 V g Y l1 Q E := by
  intro h lv R e0 e1
  refine y_next (pc' := 1) (xst_of (i := (.iload_n 1)) (len := 1) rfl rfl (x_ilo e1)) ?_
  refine y_next (pc' := 2) (xst_of (i := (.iconst 1)) (len := 1) rfl rfl (x_ico (v := 1) (by decide))) ?_
  by_cases hc : l1 < 1
  · replace H := H.1 hc
    refine y_next (xst_of (i := (.if_icmp .lt 9)) (len := 3) rfl rfl (xt_icmp_lt (t := 11) rfl hc)) ?_
    exact H _ _ R e0 e1
  · replace H := H.2 hc
    refine y_next (pc' := 5) (xst_of (i := (.if_icmp .lt 9)) (len := 3) rfl rfl (xf_icmp_lt (t := 11) rfl hc)) ?_
    refine y_next (pc' := 6) (xst_of (i := (.iload_n 1)) (len := 1) rfl rfl (x_ilo e1)) ?_
    refine y_next (pc' := 8) (xst_of (i := (.bipush 100)) (len := 2) rfl rfl (x_bip (v := 100) (by decide))) ?_
    by_cases hc : l1 ≤ 100
    · replace H := H.1 hc
      refine y_next (xst_of (i := (.if_icmp .le 13)) (len := 3) rfl rfl (xt_icmp_le (t := 21) rfl hc)) ?_
      refine y_next (pc' := 22) (xst_of (i := (.aload_n 0)) (len := 1) rfl rfl (x_aloadV (xisV_r _) e0)) ?_
      refine z_gI (t := (9, 0, 0)) (k := 9) rfl rfl rfl R (rc_9 R) ?_
      refine z_is (i := (.istore_n 2)) (len := 1) (pc' := 26) (q := 2) rfl rfl rfl (by decide) (fun lv1 hlv => ?_)
      have e0 := xs1_A hlv e0 rfl rfl
      have e1 := xs1_B hlv e1 rfl rfl
      have e2 := xs1_N hlv
      clear hlv
      refine y_next (pc' := 27) (xst_of (i := (.aload_n 0)) (len := 1) rfl rfl (x_aloadV (xisV_r _) e0)) ?_
      refine y_next (pc' := 28) (xst_of (i := (.iload_n 1)) (len := 1) rfl rfl (x_ilo e1)) ?_
      refine z_pI (t := (9, 0, 0)) (k := 9) rfl rfl rfl rfl rfl R (rc_9 R) (fun h Y1 hY R => ?_)
      replace H := H Y1 hY
      clear hY
      refine y_next (pc' := 32) (xst_of (i := (.iload_n 2)) (len := 1) rfl rfl (x_ilo e2)) ?_
      exact y_ret (xst_of (i := .ireturn) (len := 1) rfl rfl rfl) (Or.inl ⟨_, _, rfl, R, H⟩)
    · replace H := H.2 hc
      refine y_next (pc' := 11) (xst_of (i := (.if_icmp .le 13)) (len := 3) rfl rfl (xf_icmp_le (t := 21) rfl hc)) ?_
      exact H _ _ R e0 e1
theorem l_100_11 {V : xV} {g : xG} {Y : xW} {l1 : Int32} {Q : Int32 → xW → Prop} {E : Nat → xW → Prop} (H : E 101 (uT Y)) : L_100_11 V g Y l1 Q E := by
  intro h lv R e0 e1
  exact y_thr (xst_of (i := (.new 201)) (len := 3) rfl rfl rfl) (Or.inr ⟨_, _, rfl, rc_t6 R, H⟩)
theorem l_101_0 {V : xV} {g : xG} {Y : xW} {l1 : Int32} {Q : Int32 → xW → Prop} (H : L_110_0 V g Y l1 (fun o2 Y1 => (o2 = none → L_101_17 V g Y1 l1 none Q) ∧ (∀ u3, o2 = some u3 → (((fI Y1 u3 8) = 0) → L_60_0 V g Y1 l1 (fun x5 Y4 => L_111_0 V g Y4 u3 x5 2 (fun Y6 => ((1 : Int32) = 0 ∨ (1 : Int32) = 1) ∧ Q 1 Y6))) ∧ (¬ ((fI Y1 u3 8) = 0) → L_101_17 V g Y1 l1 (some u3) Q)))) : L_101_0 V g Y l1 Q := by
  intro h lv R e0 e1
  refine y_next (pc' := 1) (xst_of (i := (.aload_n 0)) (len := 1) rfl rfl (x_aloadV (xisV_r _) e0)) ?_
  refine y_next (pc' := 2) (xst_of (i := (.iload_n 1)) (len := 1) rfl rfl (x_ilo e1)) ?_
  refine z_cR (c := 4) (k := 110) (i := (.invokevirtual 177)) (as := [.ref (g.2 (9, 0, 0) 0), .int l1]) (rest := []) rfl rfl (x_callv rfl rfl (rc_ob R (rc_9 R) rfl) rfl rfl) (H _ _ R rfl rfl) (fun o2 h Y1 R ok_o2 H => ?_)
  refine z_as (i := (.astore_n 2)) (len := 1) (pc' := 6) (q := 2) rfl rfl rfl (by decide) (rv_V g o2) (fun lv1 hlv => ?_)
  have e0 := xs1_A hlv e0 rfl rfl
  have e1 := xs1_B hlv e1 rfl rfl
  have e2 := xs1_N hlv
  clear hlv
  refine y_next (pc' := 7) (xst_of (i := (.aload_n 2)) (len := 1) rfl rfl (x_aloadV (rv_V g o2) e2)) ?_
  rcases o2 with _ | u3
  · replace H := H.1 rfl
    refine y_next (pc' := 17) (xst_of (i := (.ifnull 10)) (len := 3) rfl rfl rfl) ?_
    exact H _ _ R e0 e1 e2 ok_n
  · replace H := H.2 u3 rfl
    have ok_u3 := ok_o2 u3 rfl
    refine y_next (pc' := 10) (xst_of (i := (.ifnull 10)) (len := 3) rfl rfl rfl) ?_
    refine y_next (pc' := 11) (xst_of (i := (.aload_n 2)) (len := 1) rfl rfl (x_aloadV (xisV_r _) e2)) ?_
    refine z_gI (t := u3) (k := 8) rfl rfl rfl R ok_u3 ?_
    by_cases hc : (fI Y1 u3 8) = 0
    · replace H := H.1 hc
      refine y_next (xst_of (i := (.ifCond .eq 5)) (len := 3) rfl rfl (xt_if_eq (t := 19) rfl hc)) ?_
      refine y_next (pc' := 20) (xst_of (i := (.aload_n 0)) (len := 1) rfl rfl (x_aloadV (xisV_r _) e0)) ?_
      refine y_next (pc' := 21) (xst_of (i := (.aload_n 2)) (len := 1) rfl rfl (x_aloadV (xisV_r _) e2)) ?_
      refine y_next (pc' := 22) (xst_of (i := (.aload_n 0)) (len := 1) rfl rfl (x_aloadV (xisV_r _) e0)) ?_
      refine z_gO (t := (9, 0, 0)) (k := 8) rfl rfl rfl R (rc_9 R) ?_
      refine y_next (pc' := 26) (xst_of (i := (.iload_n 1)) (len := 1) rfl rfl (x_ilo e1)) ?_
      refine z_cI (k := 60) (i := (.invokevirtual 212)) (as := [.ref (g.2 (6, 0, 0) 0), .int l1]) (rest := [.ref (g.2 u3 0), .ref (g.2 (9, 0, 0) 0)]) rfl rfl (x_callv rfl rfl (rc_ob R (rc_6 R) rfl) rfl rfl) (H _ _ R rfl rfl) (fun x5 h Y4 R H => ?_)
      refine y_next (pc' := 30) (xst_of (i := (.iconst 2)) (len := 1) rfl rfl (x_ico (v := 2) (by decide))) ?_
      refine z_cN (k := 111) (i := (.invokevirtual 194)) (as := [.ref (g.2 (9, 0, 0) 0), .ref (g.2 u3 0), .int x5, .int 2]) (rest := []) rfl rfl (x_callv rfl rfl (rc_ob R (rc_9 R) rfl) rfl rfl) (H _ _ R rfl rfl rfl rfl ok_u3) (fun h Y6 R H => ?_)
      refine y_next (pc' := 34) (xst_of (i := (.iconst 1)) (len := 1) rfl rfl (x_ico (v := 1) (by decide))) ?_
      exact y_ret (xst_of (i := .ireturn) (len := 1) rfl rfl (x_zret rfl H.1)) ⟨_, _, rfl, R, H.2⟩
    · replace H := H.2 hc
      refine y_next (pc' := 17) (xst_of (i := (.ifCond .eq 5)) (len := 3) rfl rfl (xf_if_eq (t := 19) rfl hc)) ?_
      exact H _ _ R e0 e1 e2 (ok_s ok_u3)
theorem l_101_17 {V : xV} {g : xG} {Y : xW} {l1 : Int32} {l2 : Option xT} {Q : Int32 → xW → Prop} (H : ((0 : Int32) = 0 ∨ (0 : Int32) = 1) ∧ Q 0 Y) : L_101_17 V g Y l1 l2 Q := by
  intro h lv R e0 e1 e2 ok_l2
  refine y_next (pc' := 18) (xst_of (i := (.iconst 0)) (len := 1) rfl rfl (x_ico (v := 0) (by decide))) ?_
  exact y_ret (xst_of (i := .ireturn) (len := 1) rfl rfl (x_zret rfl H.1)) ⟨_, _, rfl, R, H.2⟩
theorem l_102_0 {V : xV} {g : xG} {Y : xW} {l1 : Int32} {l2 : Int32} {Q : Int32 → xW → Prop} {E : Nat → xW → Prop} (H : L_110_0 V g Y l1 (fun o2 Y1 => (o2 = none → E 100 (uT Y1)) ∧ (∀ u3, o2 = some u3 → ((l2 = 0 → Q (fI Y1 u3 8) Y1) ∧ (l2 = 1 → Q (fI Y1 u3 0) Y1) ∧ (l2 = 2 → L_30_0 V g Y1 u3 (fun x5 Y4 => Q x5 Y4)) ∧ (l2 = 3 → Q (fI Y1 u3 9) Y1) ∧ (l2 = 4 → Q (fI Y1 u3 4) Y1) ∧ (l2 = 5 → Q (fI Y1 u3 7) Y1) ∧ (l2 = 6 → Q (fI Y1 u3 1) Y1) ∧ (l2 = 7 → L_60_0 V g Y1 l1 (fun x7 Y6 => Q x7 Y6)) ∧ (l2 = 8 → Q (fI Y1 u3 10) Y1)) ∧ ((Int32.toInt l2 < 0 ∨ 8 < Int32.toInt l2) → E 100 (uT Y1))))) : L_102_0 V g Y l1 l2 Q E := by
  intro h lv R e0 e1 e2
  refine y_next (pc' := 1) (xst_of (i := (.aload_n 0)) (len := 1) rfl rfl (x_aloadV (xisV_r _) e0)) ?_
  refine y_next (pc' := 2) (xst_of (i := (.iload_n 1)) (len := 1) rfl rfl (x_ilo e1)) ?_
  refine z_cR (c := 4) (k := 110) (i := (.invokevirtual 177)) (as := [.ref (g.2 (9, 0, 0) 0), .int l1]) (rest := []) rfl rfl (x_callv rfl rfl (rc_ob R (rc_9 R) rfl) rfl rfl) (H _ _ R rfl rfl) (fun o2 h Y1 R ok_o2 H => ?_)
  refine z_as (i := (.astore_n 3)) (len := 1) (pc' := 6) (q := 3) rfl rfl rfl (by decide) (rv_V g o2) (fun lv1 hlv => ?_)
  have e0 := xs1_A hlv e0 rfl rfl
  have e1 := xs1_A hlv e1 rfl rfl
  have e2 := xs1_B hlv e2 rfl rfl
  have e3 := xs1_N hlv
  clear hlv
  refine y_next (pc' := 7) (xst_of (i := (.aload_n 3)) (len := 1) rfl rfl (x_aloadV (rv_V g o2) e3)) ?_
  rcases o2 with _ | u3
  · replace H := H.1 rfl
    refine y_next (pc' := 10) (xst_of (i := (.ifnonnull 13)) (len := 3) rfl rfl rfl) ?_
    exact y_thr (xst_of (i := (.new 130)) (len := 3) rfl rfl rfl) (Or.inr ⟨_, _, rfl, rc_t6 R, H⟩)
  · replace H := H.2 u3 rfl
    have ok_u3 := ok_o2 u3 rfl
    refine y_next (pc' := 20) (xst_of (i := (.ifnonnull 13)) (len := 3) rfl rfl rfl) ?_
    refine y_next (pc' := 21) (xst_of (i := (.iload_n 2)) (len := 1) rfl rfl (x_ilo e2)) ?_
    by_cases hx : Int32.toInt l2 < 0 ∨ 8 < Int32.toInt l2
    · replace H := H.2 hx
      refine y_next (xst_of (i := (.tableswitch 100 0 8 #[51, 56, 61, 66, 71, 76, 81, 86, 95])) (len := 51) rfl rfl (x_sw_out (t := 121) hx rfl)) ?_
      exact y_thr (xst_of (i := (.new 130)) (len := 3) rfl rfl rfl) (Or.inr ⟨_, _, rfl, rc_t6 R, H⟩)
    · replace H := H.1
      have hy : Int32.toInt l2 = 0 ∨ Int32.toInt l2 = 1 ∨ Int32.toInt l2 = 2 ∨ Int32.toInt l2 = 3 ∨ Int32.toInt l2 = 4 ∨ Int32.toInt l2 = 5 ∨ Int32.toInt l2 = 6 ∨ Int32.toInt l2 = 7 ∨ Int32.toInt l2 = 8 := by omega
      rcases hy with hy | hy | hy | hy | hy | hy | hy | hy | hy
      · replace H := H.1
        have hz : l2 = 0 := Int32.toInt_inj.mp (hy.trans rfl)
        replace H := H hz
        refine y_next (xst_of (i := (.tableswitch 100 0 8 #[51, 56, 61, 66, 71, 76, 81, 86, 95])) (len := 51) rfl rfl (x_sw_in (t := 72) hx (by rw [hy]; rfl) rfl)) ?_
        refine y_next (pc' := 73) (xst_of (i := (.aload_n 3)) (len := 1) rfl rfl (x_aloadV (xisV_r _) e3)) ?_
        refine z_gI (t := u3) (k := 8) rfl rfl rfl R ok_u3 ?_
        exact y_ret (xst_of (i := .ireturn) (len := 1) rfl rfl rfl) (Or.inl ⟨_, _, rfl, R, H⟩)
      · replace H := H.2.1
        have hz : l2 = 1 := Int32.toInt_inj.mp (hy.trans rfl)
        replace H := H hz
        refine y_next (xst_of (i := (.tableswitch 100 0 8 #[51, 56, 61, 66, 71, 76, 81, 86, 95])) (len := 51) rfl rfl (x_sw_in (t := 77) hx (by rw [hy]; rfl) rfl)) ?_
        refine y_next (pc' := 78) (xst_of (i := (.aload_n 3)) (len := 1) rfl rfl (x_aloadV (xisV_r _) e3)) ?_
        refine z_gI (t := u3) (k := 0) rfl rfl rfl R ok_u3 ?_
        exact y_ret (xst_of (i := .ireturn) (len := 1) rfl rfl rfl) (Or.inl ⟨_, _, rfl, R, H⟩)
      · replace H := H.2.2.1
        have hz : l2 = 2 := Int32.toInt_inj.mp (hy.trans rfl)
        replace H := H hz
        refine y_next (xst_of (i := (.tableswitch 100 0 8 #[51, 56, 61, 66, 71, 76, 81, 86, 95])) (len := 51) rfl rfl (x_sw_in (t := 82) hx (by rw [hy]; rfl) rfl)) ?_
        refine y_next (pc' := 83) (xst_of (i := (.aload_n 3)) (len := 1) rfl rfl (x_aloadV (xisV_r _) e3)) ?_
        refine z_cI (k := 30) (i := (.invokevirtual 220)) (as := [.ref (g.2 u3 0)]) (rest := []) rfl rfl (x_callv rfl rfl (rc_ob R ok_u3 rfl) rfl rfl) (H _ _ R rfl ok_u3) (fun x5 h Y4 R H => ?_)
        exact y_ret (xst_of (i := .ireturn) (len := 1) rfl rfl rfl) (Or.inl ⟨_, _, rfl, R, H⟩)
      · replace H := H.2.2.2.1
        have hz : l2 = 3 := Int32.toInt_inj.mp (hy.trans rfl)
        replace H := H hz
        refine y_next (xst_of (i := (.tableswitch 100 0 8 #[51, 56, 61, 66, 71, 76, 81, 86, 95])) (len := 51) rfl rfl (x_sw_in (t := 87) hx (by rw [hy]; rfl) rfl)) ?_
        refine y_next (pc' := 88) (xst_of (i := (.aload_n 3)) (len := 1) rfl rfl (x_aloadV (xisV_r _) e3)) ?_
        refine z_gI (t := u3) (k := 9) rfl rfl rfl R ok_u3 ?_
        exact y_ret (xst_of (i := .ireturn) (len := 1) rfl rfl rfl) (Or.inl ⟨_, _, rfl, R, H⟩)
      · replace H := H.2.2.2.2.1
        have hz : l2 = 4 := Int32.toInt_inj.mp (hy.trans rfl)
        replace H := H hz
        refine y_next (xst_of (i := (.tableswitch 100 0 8 #[51, 56, 61, 66, 71, 76, 81, 86, 95])) (len := 51) rfl rfl (x_sw_in (t := 92) hx (by rw [hy]; rfl) rfl)) ?_
        refine y_next (pc' := 93) (xst_of (i := (.aload_n 3)) (len := 1) rfl rfl (x_aloadV (xisV_r _) e3)) ?_
        refine z_gI (t := u3) (k := 4) rfl rfl rfl R ok_u3 ?_
        exact y_ret (xst_of (i := .ireturn) (len := 1) rfl rfl rfl) (Or.inl ⟨_, _, rfl, R, H⟩)
      · replace H := H.2.2.2.2.2.1
        have hz : l2 = 5 := Int32.toInt_inj.mp (hy.trans rfl)
        replace H := H hz
        refine y_next (xst_of (i := (.tableswitch 100 0 8 #[51, 56, 61, 66, 71, 76, 81, 86, 95])) (len := 51) rfl rfl (x_sw_in (t := 97) hx (by rw [hy]; rfl) rfl)) ?_
        refine y_next (pc' := 98) (xst_of (i := (.aload_n 3)) (len := 1) rfl rfl (x_aloadV (xisV_r _) e3)) ?_
        refine z_gI (t := u3) (k := 7) rfl rfl rfl R ok_u3 ?_
        exact y_ret (xst_of (i := .ireturn) (len := 1) rfl rfl rfl) (Or.inl ⟨_, _, rfl, R, H⟩)
      · replace H := H.2.2.2.2.2.2.1
        have hz : l2 = 6 := Int32.toInt_inj.mp (hy.trans rfl)
        replace H := H hz
        refine y_next (xst_of (i := (.tableswitch 100 0 8 #[51, 56, 61, 66, 71, 76, 81, 86, 95])) (len := 51) rfl rfl (x_sw_in (t := 102) hx (by rw [hy]; rfl) rfl)) ?_
        refine y_next (pc' := 103) (xst_of (i := (.aload_n 3)) (len := 1) rfl rfl (x_aloadV (xisV_r _) e3)) ?_
        refine z_gI (t := u3) (k := 1) rfl rfl rfl R ok_u3 ?_
        exact y_ret (xst_of (i := .ireturn) (len := 1) rfl rfl rfl) (Or.inl ⟨_, _, rfl, R, H⟩)
      · replace H := H.2.2.2.2.2.2.2.1
        have hz : l2 = 7 := Int32.toInt_inj.mp (hy.trans rfl)
        replace H := H hz
        refine y_next (xst_of (i := (.tableswitch 100 0 8 #[51, 56, 61, 66, 71, 76, 81, 86, 95])) (len := 51) rfl rfl (x_sw_in (t := 107) hx (by rw [hy]; rfl) rfl)) ?_
        refine y_next (pc' := 108) (xst_of (i := (.aload_n 0)) (len := 1) rfl rfl (x_aloadV (xisV_r _) e0)) ?_
        refine z_gO (t := (9, 0, 0)) (k := 8) rfl rfl rfl R (rc_9 R) ?_
        refine y_next (pc' := 112) (xst_of (i := (.iload_n 1)) (len := 1) rfl rfl (x_ilo e1)) ?_
        refine z_cI (k := 60) (i := (.invokevirtual 212)) (as := [.ref (g.2 (6, 0, 0) 0), .int l1]) (rest := []) rfl rfl (x_callv rfl rfl (rc_ob R (rc_6 R) rfl) rfl rfl) (H _ _ R rfl rfl) (fun x7 h Y6 R H => ?_)
        exact y_ret (xst_of (i := .ireturn) (len := 1) rfl rfl rfl) (Or.inl ⟨_, _, rfl, R, H⟩)
      · replace H := H.2.2.2.2.2.2.2.2
        have hz : l2 = 8 := Int32.toInt_inj.mp (hy.trans rfl)
        replace H := H hz
        refine y_next (xst_of (i := (.tableswitch 100 0 8 #[51, 56, 61, 66, 71, 76, 81, 86, 95])) (len := 51) rfl rfl (x_sw_in (t := 116) hx (by rw [hy]; rfl) rfl)) ?_
        refine y_next (pc' := 117) (xst_of (i := (.aload_n 3)) (len := 1) rfl rfl (x_aloadV (xisV_r _) e3)) ?_
        refine z_gI (t := u3) (k := 10) rfl rfl rfl R ok_u3 ?_
        exact y_ret (xst_of (i := .ireturn) (len := 1) rfl rfl rfl) (Or.inl ⟨_, _, rfl, R, H⟩)
theorem l_103_0 {V : xV} {g : xG} {Y : xW} {l1 : Int32} {l2 : Int32} {Q : Int32 → xW → Prop} {E : Nat → xW → Prop} (H : L_110_0 V g Y l1 (fun o2 Y1 => (o2 = none → L_103_17 V g Y1 l1 l2 none Q E) ∧ (∀ u3, o2 = some u3 → L_112_0 V g Y1 l2 (fun x5 Y4 => ((x5 = 0) → L_103_17 V g Y4 l1 l2 (some u3) Q E) ∧ (¬ (x5 = 0) → vp_in l2 8 ∧ Q (fA Y4 u3 2 (Int32.toNatClampNeg l2)) Y4))))) : L_103_0 V g Y l1 l2 Q E := by
  intro h lv R e0 e1 e2
  refine y_next (pc' := 1) (xst_of (i := (.aload_n 0)) (len := 1) rfl rfl (x_aloadV (xisV_r _) e0)) ?_
  refine y_next (pc' := 2) (xst_of (i := (.iload_n 1)) (len := 1) rfl rfl (x_ilo e1)) ?_
  refine z_cR (c := 4) (k := 110) (i := (.invokevirtual 177)) (as := [.ref (g.2 (9, 0, 0) 0), .int l1]) (rest := []) rfl rfl (x_callv rfl rfl (rc_ob R (rc_9 R) rfl) rfl rfl) (H _ _ R rfl rfl) (fun o2 h Y1 R ok_o2 H => ?_)
  refine z_as (i := (.astore_n 3)) (len := 1) (pc' := 6) (q := 3) rfl rfl rfl (by decide) (rv_V g o2) (fun lv1 hlv => ?_)
  have e0 := xs1_A hlv e0 rfl rfl
  have e1 := xs1_A hlv e1 rfl rfl
  have e2 := xs1_B hlv e2 rfl rfl
  have e3 := xs1_N hlv
  clear hlv
  refine y_next (pc' := 7) (xst_of (i := (.aload_n 3)) (len := 1) rfl rfl (x_aloadV (rv_V g o2) e3)) ?_
  rcases o2 with _ | u3
  · replace H := H.1 rfl
    refine y_next (pc' := 17) (xst_of (i := (.ifnull 10)) (len := 3) rfl rfl rfl) ?_
    exact H _ _ R e0 e1 e2 e3 ok_n
  · replace H := H.2 u3 rfl
    have ok_u3 := ok_o2 u3 rfl
    refine y_next (pc' := 10) (xst_of (i := (.ifnull 10)) (len := 3) rfl rfl rfl) ?_
    refine y_next (pc' := 11) (xst_of (i := (.iload_n 2)) (len := 1) rfl rfl (x_ilo e2)) ?_
    refine z_cI (k := 112) (i := (.invokestatic 238)) (as := [.int l2]) (rest := []) rfl rfl rfl (H _ _ R rfl) (fun x5 h Y4 R H => ?_)
    by_cases hc : x5 = 0
    · replace H := H.1 hc
      refine y_next (pc' := 17) (xst_of (i := (.ifCond .ne 13)) (len := 3) rfl rfl (xf_if_ne (t := 27) rfl (fun z => z hc))) ?_
      exact H _ _ R e0 e1 e2 e3 (ok_s ok_u3)
    · replace H := H.2 hc
      refine y_next (xst_of (i := (.ifCond .ne 13)) (len := 3) rfl rfl (xt_if_ne (t := 27) rfl hc)) ?_
      refine y_next (pc' := 28) (xst_of (i := (.aload_n 3)) (len := 1) rfl rfl (x_aloadV (xisV_r _) e3)) ?_
      refine z_gA (t := u3) (k := 2) rfl rfl rfl R ok_u3 ?_
      refine y_next (pc' := 32) (xst_of (i := (.iload_n 2)) (len := 1) rfl rfl (x_ilo e2)) ?_
      refine z_aI (t := u3) (k := 2) (n := 8) (i := l2) rfl rfl R ok_u3 H.1 ?_
      replace H := H.2
      exact y_ret (xst_of (i := .ireturn) (len := 1) rfl rfl rfl) (Or.inl ⟨_, _, rfl, R, H⟩)
theorem l_103_17 {V : xV} {g : xG} {Y : xW} {l1 : Int32} {l2 : Int32} {l3 : Option xT} {Q : Int32 → xW → Prop} {E : Nat → xW → Prop} (H : E 100 (uT Y)) : L_103_17 V g Y l1 l2 l3 Q E := by
  intro h lv R e0 e1 e2 e3 ok_l3
  exact y_thr (xst_of (i := (.new 130)) (len := 3) rfl rfl rfl) (Or.inr ⟨_, _, rfl, rc_t6 R, H⟩)
theorem l_104_0 {V : xV} {g : xG} {Y : xW} {l1 : Int32} {Q : Int64 → xW → Prop} {E : Nat → xW → Prop} (H : L_110_0 V g Y l1 (fun o2 Y1 => (o2 = none → E 100 (uT Y1)) ∧ (∀ u3, o2 = some u3 → Q (fL Y1 u3 11 0) Y1))) : L_104_0 V g Y l1 Q E := by
  intro h lv R e0 e1
  refine y_next (pc' := 1) (xst_of (i := (.aload_n 0)) (len := 1) rfl rfl (x_aloadV (xisV_r _) e0)) ?_
  refine y_next (pc' := 2) (xst_of (i := (.iload_n 1)) (len := 1) rfl rfl (x_ilo e1)) ?_
  refine z_cR (c := 4) (k := 110) (i := (.invokevirtual 177)) (as := [.ref (g.2 (9, 0, 0) 0), .int l1]) (rest := []) rfl rfl (x_callv rfl rfl (rc_ob R (rc_9 R) rfl) rfl rfl) (H _ _ R rfl rfl) (fun o2 h Y1 R ok_o2 H => ?_)
  refine z_as (i := (.astore_n 2)) (len := 1) (pc' := 6) (q := 2) rfl rfl rfl (by decide) (rv_V g o2) (fun lv1 hlv => ?_)
  have e0 := xs1_A hlv e0 rfl rfl
  have e1 := xs1_B hlv e1 rfl rfl
  have e2 := xs1_N hlv
  clear hlv
  refine y_next (pc' := 7) (xst_of (i := (.aload_n 2)) (len := 1) rfl rfl (x_aloadV (rv_V g o2) e2)) ?_
  rcases o2 with _ | u3
  · replace H := H.1 rfl
    refine y_next (pc' := 10) (xst_of (i := (.ifnonnull 13)) (len := 3) rfl rfl rfl) ?_
    exact y_thr (xst_of (i := (.new 130)) (len := 3) rfl rfl rfl) (Or.inr ⟨_, _, rfl, rc_t6 R, H⟩)
  · replace H := H.2 u3 rfl
    have ok_u3 := ok_o2 u3 rfl
    refine y_next (pc' := 20) (xst_of (i := (.ifnonnull 13)) (len := 3) rfl rfl rfl) ?_
    refine y_next (pc' := 21) (xst_of (i := (.aload_n 2)) (len := 1) rfl rfl (x_aloadV (xisV_r _) e2)) ?_
    refine z_gJ (t := u3) (k := 11) rfl rfl rfl R ok_u3 ?_
    exact y_ret (xst_of (i := .lreturn) (len := 1) rfl rfl rfl) (Or.inl ⟨_, _, rfl, R, H⟩)
theorem l_105_0 {V : xV} {g : xG} {Y : xW} {l1 : Int32} {l2 : Int32} {Q : Int32 → xW → Prop} {E : Nat → xW → Prop} (H : L_110_0 V g Y l1 (fun o2 Y1 => (o2 = none → L_105_18 V g Y1 l1 l2 none Q E) ∧ (∀ u3, o2 = some u3 → L_31_0 V g Y1 u3 l2 (fun x5 Y4 => ((x5 = 0) → L_105_18 V g Y4 l1 l2 (some u3) Q E) ∧ (¬ (x5 = 0) → L_65_0 V g Y4 ((fI Y4 u3 7) + l2) (fun x7 Y6 => Q x7 Y6)))))) : L_105_0 V g Y l1 l2 Q E := by
  intro h lv R e0 e1 e2
  refine y_next (pc' := 1) (xst_of (i := (.aload_n 0)) (len := 1) rfl rfl (x_aloadV (xisV_r _) e0)) ?_
  refine y_next (pc' := 2) (xst_of (i := (.iload_n 1)) (len := 1) rfl rfl (x_ilo e1)) ?_
  refine z_cR (c := 4) (k := 110) (i := (.invokevirtual 177)) (as := [.ref (g.2 (9, 0, 0) 0), .int l1]) (rest := []) rfl rfl (x_callv rfl rfl (rc_ob R (rc_9 R) rfl) rfl rfl) (H _ _ R rfl rfl) (fun o2 h Y1 R ok_o2 H => ?_)
  refine z_as (i := (.astore_n 3)) (len := 1) (pc' := 6) (q := 3) rfl rfl rfl (by decide) (rv_V g o2) (fun lv1 hlv => ?_)
  have e0 := xs1_A hlv e0 rfl rfl
  have e1 := xs1_A hlv e1 rfl rfl
  have e2 := xs1_B hlv e2 rfl rfl
  have e3 := xs1_N hlv
  clear hlv
  refine y_next (pc' := 7) (xst_of (i := (.aload_n 3)) (len := 1) rfl rfl (x_aloadV (rv_V g o2) e3)) ?_
  rcases o2 with _ | u3
  · replace H := H.1 rfl
    refine y_next (pc' := 18) (xst_of (i := (.ifnull 11)) (len := 3) rfl rfl rfl) ?_
    exact H _ _ R e0 e1 e2 e3 ok_n
  · replace H := H.2 u3 rfl
    have ok_u3 := ok_o2 u3 rfl
    refine y_next (pc' := 10) (xst_of (i := (.ifnull 11)) (len := 3) rfl rfl rfl) ?_
    refine y_next (pc' := 11) (xst_of (i := (.aload_n 3)) (len := 1) rfl rfl (x_aloadV (xisV_r _) e3)) ?_
    refine y_next (pc' := 12) (xst_of (i := (.iload_n 2)) (len := 1) rfl rfl (x_ilo e2)) ?_
    refine z_cI (k := 31) (i := (.invokevirtual 251)) (as := [.ref (g.2 u3 0), .int l2]) (rest := []) rfl rfl (x_callv rfl rfl (rc_ob R ok_u3 rfl) rfl rfl) (H _ _ R rfl rfl ok_u3) (fun x5 h Y4 R H => ?_)
    by_cases hc : x5 = 0
    · replace H := H.1 hc
      refine y_next (pc' := 18) (xst_of (i := (.ifCond .ne 13)) (len := 3) rfl rfl (xf_if_ne (t := 28) rfl (fun z => z hc))) ?_
      exact H _ _ R e0 e1 e2 e3 (ok_s ok_u3)
    · replace H := H.2 hc
      refine y_next (xst_of (i := (.ifCond .ne 13)) (len := 3) rfl rfl (xt_if_ne (t := 28) rfl hc)) ?_
      refine y_next (pc' := 29) (xst_of (i := (.aload_n 0)) (len := 1) rfl rfl (x_aloadV (xisV_r _) e0)) ?_
      refine z_gO (t := (9, 0, 0)) (k := 7) rfl rfl rfl R (rc_9 R) ?_
      refine y_next (pc' := 33) (xst_of (i := (.aload_n 3)) (len := 1) rfl rfl (x_aloadV (xisV_r _) e3)) ?_
      refine z_gI (t := u3) (k := 7) rfl rfl rfl R ok_u3 ?_
      refine y_next (pc' := 37) (xst_of (i := (.iload_n 2)) (len := 1) rfl rfl (x_ilo e2)) ?_
      refine y_next (pc' := 38) (xst_of (i := .iadd) (len := 1) rfl rfl rfl) ?_
      refine z_cI (k := 65) (i := (.invokevirtual 256)) (as := [.ref (g.2 (7, 0, 0) 0), .int ((fI Y4 u3 7) + l2)]) (rest := []) rfl rfl (x_callv rfl rfl (rc_ob R (rc_7 R) rfl) rfl rfl) (H _ _ R rfl rfl) (fun x7 h Y6 R H => ?_)
      exact y_ret (xst_of (i := .ireturn) (len := 1) rfl rfl rfl) (Or.inl ⟨_, _, rfl, R, H⟩)
theorem l_105_18 {V : xV} {g : xG} {Y : xW} {l1 : Int32} {l2 : Int32} {l3 : Option xT} {Q : Int32 → xW → Prop} {E : Nat → xW → Prop} (H : E 100 (uT Y)) : L_105_18 V g Y l1 l2 l3 Q E := by
  intro h lv R e0 e1 e2 e3 ok_l3
  exact y_thr (xst_of (i := (.new 130)) (len := 3) rfl rfl rfl) (Or.inr ⟨_, _, rfl, rc_t6 R, H⟩)
theorem l_106_0 {V : xV} {g : xG} {Y : xW} {l1 : Int32} {Q : Int32 → xW → Prop} {E : Nat → xW → Prop} (H : ((l1 < 0) → L_106_11 V g Y l1 Q E) ∧ (¬ (l1 < 0) → ((l1 < 4096) → L_65_0 V g Y l1 (fun x2 Y1 => Q x2 Y1)) ∧ (¬ (l1 < 4096) → L_106_11 V g Y l1 Q E))) : L_106_0 V g Y l1 Q E := by
  intro h lv R e0 e1
  refine y_next (pc' := 1) (xst_of (i := (.iload_n 1)) (len := 1) rfl rfl (x_ilo e1)) ?_
  by_cases hc : l1 < 0
  · replace H := H.1 hc
    refine y_next (xst_of (i := (.ifCond .lt 10)) (len := 3) rfl rfl (xt_if_lt (t := 11) rfl hc)) ?_
    exact H _ _ R e0 e1
  · replace H := H.2 hc
    refine y_next (pc' := 4) (xst_of (i := (.ifCond .lt 10)) (len := 3) rfl rfl (xf_if_lt (t := 11) rfl hc)) ?_
    refine y_next (pc' := 5) (xst_of (i := (.iload_n 1)) (len := 1) rfl rfl (x_ilo e1)) ?_
    refine y_next (pc' := 8) (xst_of (i := (.sipush 4096)) (len := 3) rfl rfl (x_sip (v := 4096) (by decide))) ?_
    by_cases hc : l1 < 4096
    · replace H := H.1 hc
      refine y_next (xst_of (i := (.if_icmp .lt 14)) (len := 3) rfl rfl (xt_icmp_lt (t := 22) rfl hc)) ?_
      refine y_next (pc' := 23) (xst_of (i := (.aload_n 0)) (len := 1) rfl rfl (x_aloadV (xisV_r _) e0)) ?_
      refine z_gO (t := (9, 0, 0)) (k := 7) rfl rfl rfl R (rc_9 R) ?_
      refine y_next (pc' := 27) (xst_of (i := (.iload_n 1)) (len := 1) rfl rfl (x_ilo e1)) ?_
      refine z_cI (k := 65) (i := (.invokevirtual 256)) (as := [.ref (g.2 (7, 0, 0) 0), .int l1]) (rest := []) rfl rfl (x_callv rfl rfl (rc_ob R (rc_7 R) rfl) rfl rfl) (H _ _ R rfl rfl) (fun x2 h Y1 R H => ?_)
      exact y_ret (xst_of (i := .ireturn) (len := 1) rfl rfl rfl) (Or.inl ⟨_, _, rfl, R, H⟩)
    · replace H := H.2 hc
      refine y_next (pc' := 11) (xst_of (i := (.if_icmp .lt 14)) (len := 3) rfl rfl (xf_icmp_lt (t := 22) rfl hc)) ?_
      exact H _ _ R e0 e1
theorem l_106_11 {V : xV} {g : xG} {Y : xW} {l1 : Int32} {Q : Int32 → xW → Prop} {E : Nat → xW → Prop} (H : E 100 (uT Y)) : L_106_11 V g Y l1 Q E := by
  intro h lv R e0 e1
  exact y_thr (xst_of (i := (.new 130)) (len := 3) rfl rfl rfl) (Or.inr ⟨_, _, rfl, rc_t6 R, H⟩)
theorem l_107_0 {V : xV} {g : xG} {Y : xW} {l1 : Int32} {Q : Int32 → xW → Prop} {E : Nat → xW → Prop} (H : ((l1 = 0 → Q (fI Y (9, 0, 0) 1) Y) ∧ (l1 = 1 → Q (fI Y (9, 0, 0) 3) Y) ∧ (l1 = 2 → Q (fI Y (9, 0, 0) 6) Y) ∧ (l1 = 3 → Q (fI Y (6, 0, 0) 2) Y) ∧ (l1 = 4 → L_70_0 V g Y  (fun x2 Y1 => Q x2 Y1)) ∧ (l1 = 5 → L_71_0 V g Y  (fun x4 Y3 => Q x4 Y3)) ∧ (l1 = 6 → L_72_0 V g Y  (fun x6 Y5 => Q x6 Y5)) ∧ (l1 = 7 → Q (fI Y (9, 0, 0) 11) Y) ∧ (l1 = 8 → (((fI Y (6, 0, 0) 2) = 0) → L_107_122 V g Y l1 (-1) Q E) ∧ (¬ ((fI Y (6, 0, 0) 2) = 0) → L_107_122 V g Y l1 (fI Y (9, 0, 0) 10) Q E))) ∧ ((Int32.toInt l1 < 0 ∨ 8 < Int32.toInt l1) → E 100 (uT Y))) : L_107_0 V g Y l1 Q E := by
  intro h lv R e0 e1
  refine y_next (pc' := 1) (xst_of (i := (.iload_n 1)) (len := 1) rfl rfl (x_ilo e1)) ?_
  by_cases hx : Int32.toInt l1 < 0 ∨ 8 < Int32.toInt l1
  · replace H := H.2 hx
    refine y_next (xst_of (i := (.tableswitch 122 0 8 #[51, 56, 61, 66, 74, 82, 90, 98, 103])) (len := 51) rfl rfl (x_sw_out (t := 123) hx rfl)) ?_
    exact y_thr (xst_of (i := (.new 130)) (len := 3) rfl rfl rfl) (Or.inr ⟨_, _, rfl, rc_t6 R, H⟩)
  · replace H := H.1
    have hy : Int32.toInt l1 = 0 ∨ Int32.toInt l1 = 1 ∨ Int32.toInt l1 = 2 ∨ Int32.toInt l1 = 3 ∨ Int32.toInt l1 = 4 ∨ Int32.toInt l1 = 5 ∨ Int32.toInt l1 = 6 ∨ Int32.toInt l1 = 7 ∨ Int32.toInt l1 = 8 := by omega
    rcases hy with hy | hy | hy | hy | hy | hy | hy | hy | hy
    · replace H := H.1
      have hz : l1 = 0 := Int32.toInt_inj.mp (hy.trans rfl)
      replace H := H hz
      refine y_next (xst_of (i := (.tableswitch 122 0 8 #[51, 56, 61, 66, 74, 82, 90, 98, 103])) (len := 51) rfl rfl (x_sw_in (t := 52) hx (by rw [hy]; rfl) rfl)) ?_
      refine y_next (pc' := 53) (xst_of (i := (.aload_n 0)) (len := 1) rfl rfl (x_aloadV (xisV_r _) e0)) ?_
      refine z_gI (t := (9, 0, 0)) (k := 1) rfl rfl rfl R (rc_9 R) ?_
      exact y_ret (xst_of (i := .ireturn) (len := 1) rfl rfl rfl) (Or.inl ⟨_, _, rfl, R, H⟩)
    · replace H := H.2.1
      have hz : l1 = 1 := Int32.toInt_inj.mp (hy.trans rfl)
      replace H := H hz
      refine y_next (xst_of (i := (.tableswitch 122 0 8 #[51, 56, 61, 66, 74, 82, 90, 98, 103])) (len := 51) rfl rfl (x_sw_in (t := 57) hx (by rw [hy]; rfl) rfl)) ?_
      refine y_next (pc' := 58) (xst_of (i := (.aload_n 0)) (len := 1) rfl rfl (x_aloadV (xisV_r _) e0)) ?_
      refine z_gI (t := (9, 0, 0)) (k := 3) rfl rfl rfl R (rc_9 R) ?_
      exact y_ret (xst_of (i := .ireturn) (len := 1) rfl rfl rfl) (Or.inl ⟨_, _, rfl, R, H⟩)
    · replace H := H.2.2.1
      have hz : l1 = 2 := Int32.toInt_inj.mp (hy.trans rfl)
      replace H := H hz
      refine y_next (xst_of (i := (.tableswitch 122 0 8 #[51, 56, 61, 66, 74, 82, 90, 98, 103])) (len := 51) rfl rfl (x_sw_in (t := 62) hx (by rw [hy]; rfl) rfl)) ?_
      refine y_next (pc' := 63) (xst_of (i := (.aload_n 0)) (len := 1) rfl rfl (x_aloadV (xisV_r _) e0)) ?_
      refine z_gI (t := (9, 0, 0)) (k := 6) rfl rfl rfl R (rc_9 R) ?_
      exact y_ret (xst_of (i := .ireturn) (len := 1) rfl rfl rfl) (Or.inl ⟨_, _, rfl, R, H⟩)
    · replace H := H.2.2.2.1
      have hz : l1 = 3 := Int32.toInt_inj.mp (hy.trans rfl)
      replace H := H hz
      refine y_next (xst_of (i := (.tableswitch 122 0 8 #[51, 56, 61, 66, 74, 82, 90, 98, 103])) (len := 51) rfl rfl (x_sw_in (t := 67) hx (by rw [hy]; rfl) rfl)) ?_
      refine y_next (pc' := 68) (xst_of (i := (.aload_n 0)) (len := 1) rfl rfl (x_aloadV (xisV_r _) e0)) ?_
      refine z_gO (t := (9, 0, 0)) (k := 8) rfl rfl rfl R (rc_9 R) ?_
      refine z_gI (t := (6, 0, 0)) (k := 2) rfl rfl rfl R (rc_6 R) ?_
      exact y_ret (xst_of (i := .ireturn) (len := 1) rfl rfl rfl) (Or.inl ⟨_, _, rfl, R, H⟩)
    · replace H := H.2.2.2.2.1
      have hz : l1 = 4 := Int32.toInt_inj.mp (hy.trans rfl)
      replace H := H hz
      refine y_next (xst_of (i := (.tableswitch 122 0 8 #[51, 56, 61, 66, 74, 82, 90, 98, 103])) (len := 51) rfl rfl (x_sw_in (t := 75) hx (by rw [hy]; rfl) rfl)) ?_
      refine y_next (pc' := 76) (xst_of (i := (.aload_n 0)) (len := 1) rfl rfl (x_aloadV (xisV_r _) e0)) ?_
      refine z_gO (t := (9, 0, 0)) (k := 7) rfl rfl rfl R (rc_9 R) ?_
      refine z_cI (k := 70) (i := (.invokevirtual 261)) (as := [.ref (g.2 (7, 0, 0) 0)]) (rest := []) rfl rfl (x_callv rfl rfl (rc_ob R (rc_7 R) rfl) rfl rfl) (H _ _ R rfl) (fun x2 h Y1 R H => ?_)
      exact y_ret (xst_of (i := .ireturn) (len := 1) rfl rfl rfl) (Or.inl ⟨_, _, rfl, R, H⟩)
    · replace H := H.2.2.2.2.2.1
      have hz : l1 = 5 := Int32.toInt_inj.mp (hy.trans rfl)
      replace H := H hz
      refine y_next (xst_of (i := (.tableswitch 122 0 8 #[51, 56, 61, 66, 74, 82, 90, 98, 103])) (len := 51) rfl rfl (x_sw_in (t := 83) hx (by rw [hy]; rfl) rfl)) ?_
      refine y_next (pc' := 84) (xst_of (i := (.aload_n 0)) (len := 1) rfl rfl (x_aloadV (xisV_r _) e0)) ?_
      refine z_gO (t := (9, 0, 0)) (k := 7) rfl rfl rfl R (rc_9 R) ?_
      refine z_cI (k := 71) (i := (.invokevirtual 264)) (as := [.ref (g.2 (7, 0, 0) 0)]) (rest := []) rfl rfl (x_callv rfl rfl (rc_ob R (rc_7 R) rfl) rfl rfl) (H _ _ R rfl) (fun x4 h Y3 R H => ?_)
      exact y_ret (xst_of (i := .ireturn) (len := 1) rfl rfl rfl) (Or.inl ⟨_, _, rfl, R, H⟩)
    · replace H := H.2.2.2.2.2.2.1
      have hz : l1 = 6 := Int32.toInt_inj.mp (hy.trans rfl)
      replace H := H hz
      refine y_next (xst_of (i := (.tableswitch 122 0 8 #[51, 56, 61, 66, 74, 82, 90, 98, 103])) (len := 51) rfl rfl (x_sw_in (t := 91) hx (by rw [hy]; rfl) rfl)) ?_
      refine y_next (pc' := 92) (xst_of (i := (.aload_n 0)) (len := 1) rfl rfl (x_aloadV (xisV_r _) e0)) ?_
      refine z_gO (t := (9, 0, 0)) (k := 7) rfl rfl rfl R (rc_9 R) ?_
      refine z_cI (k := 72) (i := (.invokevirtual 267)) (as := [.ref (g.2 (7, 0, 0) 0)]) (rest := []) rfl rfl (x_callv rfl rfl (rc_ob R (rc_7 R) rfl) rfl rfl) (H _ _ R rfl) (fun x6 h Y5 R H => ?_)
      exact y_ret (xst_of (i := .ireturn) (len := 1) rfl rfl rfl) (Or.inl ⟨_, _, rfl, R, H⟩)
    · replace H := H.2.2.2.2.2.2.2.1
      have hz : l1 = 7 := Int32.toInt_inj.mp (hy.trans rfl)
      replace H := H hz
      refine y_next (xst_of (i := (.tableswitch 122 0 8 #[51, 56, 61, 66, 74, 82, 90, 98, 103])) (len := 51) rfl rfl (x_sw_in (t := 99) hx (by rw [hy]; rfl) rfl)) ?_
      refine y_next (pc' := 100) (xst_of (i := (.aload_n 0)) (len := 1) rfl rfl (x_aloadV (xisV_r _) e0)) ?_
      refine z_gI (t := (9, 0, 0)) (k := 11) rfl rfl rfl R (rc_9 R) ?_
      exact y_ret (xst_of (i := .ireturn) (len := 1) rfl rfl rfl) (Or.inl ⟨_, _, rfl, R, H⟩)
    · replace H := H.2.2.2.2.2.2.2.2
      have hz : l1 = 8 := Int32.toInt_inj.mp (hy.trans rfl)
      replace H := H hz
      refine y_next (xst_of (i := (.tableswitch 122 0 8 #[51, 56, 61, 66, 74, 82, 90, 98, 103])) (len := 51) rfl rfl (x_sw_in (t := 104) hx (by rw [hy]; rfl) rfl)) ?_
      refine y_next (pc' := 105) (xst_of (i := (.aload_n 0)) (len := 1) rfl rfl (x_aloadV (xisV_r _) e0)) ?_
      refine z_gO (t := (9, 0, 0)) (k := 8) rfl rfl rfl R (rc_9 R) ?_
      refine z_gI (t := (6, 0, 0)) (k := 2) rfl rfl rfl R (rc_6 R) ?_
      by_cases hc : (fI Y (6, 0, 0) 2) = 0
      · replace H := H.1 hc
        refine y_next (pc' := 114) (xst_of (i := (.ifCond .ne 7)) (len := 3) rfl rfl (xf_if_ne (t := 118) rfl (fun z => z hc))) ?_
        refine y_next (pc' := 115) (xst_of (i := (.iconst (-1))) (len := 1) rfl rfl (x_ico (v := (-1)) (by decide))) ?_
        refine y_next (pc' := 122) (xst_of (i := (.goto 7)) (len := 3) rfl rfl rfl) ?_
        exact H _ _ R e0 e1
      · replace H := H.2 hc
        refine y_next (xst_of (i := (.ifCond .ne 7)) (len := 3) rfl rfl (xt_if_ne (t := 118) rfl hc)) ?_
        refine y_next (pc' := 119) (xst_of (i := (.aload_n 0)) (len := 1) rfl rfl (x_aloadV (xisV_r _) e0)) ?_
        refine z_gI (t := (9, 0, 0)) (k := 10) rfl rfl rfl R (rc_9 R) ?_
        exact H _ _ R e0 e1
theorem l_107_122 {V : xV} {g : xG} {Y : xW} {l1 : Int32} {s0 : Int32} {Q : Int32 → xW → Prop} {E : Nat → xW → Prop} (H : Q s0 Y) : L_107_122 V g Y l1 s0 Q E := by
  intro h lv R e0 e1
  exact y_ret (xst_of (i := .ireturn) (len := 1) rfl rfl rfl) (Or.inl ⟨_, _, rfl, R, H⟩)
theorem l_108_0 {V : xV} {g : xG} {Y : xW} {l1 : Int32} {Q : Option xT → xW → Prop} (H : ((l1 < 0) → L_108_21 V g Y l1 Q) ∧ (¬ (l1 < 0) → (((fI Y (9, 0, 0) 1) ≤ l1) → L_108_21 V g Y l1 Q) ∧ (¬ ((fI Y (9, 0, 0) 1) ≤ l1) → vp_in l1 24 ∧ ∀ o1, o1 = fR Y (9, 0, 0) 0 (Int32.toNatClampNeg l1) → L_108_22 V g Y l1 o1 Q))) : L_108_0 V g Y l1 Q := by
  intro h lv R e0 e1
  refine y_next (pc' := 1) (xst_of (i := (.iload_n 1)) (len := 1) rfl rfl (x_ilo e1)) ?_
  by_cases hc : l1 < 0
  · replace H := H.1 hc
    refine y_next (xst_of (i := (.ifCond .lt 20)) (len := 3) rfl rfl (xt_if_lt (t := 21) rfl hc)) ?_
    exact H _ _ R e0 e1
  · replace H := H.2 hc
    refine y_next (pc' := 4) (xst_of (i := (.ifCond .lt 20)) (len := 3) rfl rfl (xf_if_lt (t := 21) rfl hc)) ?_
    refine y_next (pc' := 5) (xst_of (i := (.iload_n 1)) (len := 1) rfl rfl (x_ilo e1)) ?_
    refine y_next (pc' := 6) (xst_of (i := (.aload_n 0)) (len := 1) rfl rfl (x_aloadV (xisV_r _) e0)) ?_
    refine z_gI (t := (9, 0, 0)) (k := 1) rfl rfl rfl R (rc_9 R) ?_
    by_cases hc : (fI Y (9, 0, 0) 1) ≤ l1
    · replace H := H.1 hc
      refine y_next (xst_of (i := (.if_icmp .ge 12)) (len := 3) rfl rfl (xt_icmp_ge (t := 21) rfl hc)) ?_
      exact H _ _ R e0 e1
    · replace H := H.2 hc
      refine y_next (pc' := 12) (xst_of (i := (.if_icmp .ge 12)) (len := 3) rfl rfl (xf_icmp_ge (t := 21) rfl hc)) ?_
      refine y_next (pc' := 13) (xst_of (i := (.aload_n 0)) (len := 1) rfl rfl (x_aloadV (xisV_r _) e0)) ?_
      refine z_gA (t := (9, 0, 0)) (k := 0) rfl rfl rfl R (rc_9 R) ?_
      refine y_next (pc' := 17) (xst_of (i := (.iload_n 1)) (len := 1) rfl rfl (x_ilo e1)) ?_
      refine z_aR (t := (9, 0, 0)) (k := 0) (m := 4) (n := 24) (i := l1) rfl rfl (by decide) R (rc_9 R) H.1 rfl (fun o1 ho ok_o1 => ?_)
      replace H := H.2 o1 ho
      clear ho
      refine y_next (pc' := 22) (xst_of (i := (.goto 4)) (len := 3) rfl rfl rfl) ?_
      exact H _ _ R e0 e1 ok_o1
theorem l_108_21 {V : xV} {g : xG} {Y : xW} {l1 : Int32} {Q : Option xT → xW → Prop} (H : L_108_22 V g Y l1 none Q) : L_108_21 V g Y l1 Q := by
  intro h lv R e0 e1
  refine y_next (pc' := 22) (xst_of (i := .aconst_null) (len := 1) rfl rfl rfl) ?_
  exact H _ _ R e0 e1 ok_n
theorem l_108_22 {V : xV} {g : xG} {Y : xW} {l1 : Int32} {s0 : Option xT} {Q : Option xT → xW → Prop} (H : Q s0 Y) : L_108_22 V g Y l1 s0 Q := by
  intro h lv R e0 e1 ok_s0
  exact y_ret (xst_of (i := .areturn) (len := 1) rfl rfl (x_aretV rfl (rv_V g s0))) ⟨s0, _, rfl, R, ok_s0, H⟩
theorem l_109_0 {V : xV} {g : xG} {Y : xW} {l1 : Int32} {Q : Option xT → xW → Prop} (H : L_108_0 V g Y l1 (fun o2 Y1 => (o2 = none → L_109_22 V g Y1 l1 none Q) ∧ (∀ u3, o2 = some u3 → (((fI Y1 u3 8) = 1) → L_109_23 V g Y1 l1 (some u3) (some u3) Q) ∧ (¬ ((fI Y1 u3 8) = 1) → L_109_22 V g Y1 l1 (some u3) Q)))) : L_109_0 V g Y l1 Q := by
  intro h lv R e0 e1
  refine y_next (pc' := 1) (xst_of (i := (.aload_n 0)) (len := 1) rfl rfl (x_aloadV (xisV_r _) e0)) ?_
  refine y_next (pc' := 2) (xst_of (i := (.iload_n 1)) (len := 1) rfl rfl (x_ilo e1)) ?_
  refine z_cR (c := 5) (k := 108) (i := (.invokevirtual 127)) (as := [.ref (g.2 (9, 0, 0) 0), .int l1]) (rest := []) rfl rfl (x_callv rfl rfl (rc_ob R (rc_9 R) rfl) rfl rfl) (H _ _ R rfl rfl) (fun o2 h Y1 R ok_o2 H => ?_)
  refine z_as (i := (.astore_n 2)) (len := 1) (pc' := 6) (q := 2) rfl rfl rfl (by decide) (rv_V g o2) (fun lv1 hlv => ?_)
  have e0 := xs1_A hlv e0 rfl rfl
  have e1 := xs1_B hlv e1 rfl rfl
  have e2 := xs1_N hlv
  clear hlv
  refine y_next (pc' := 7) (xst_of (i := (.aload_n 2)) (len := 1) rfl rfl (x_aloadV (rv_V g o2) e2)) ?_
  rcases o2 with _ | u3
  · replace H := H.1 rfl
    refine y_next (pc' := 22) (xst_of (i := (.ifnull 15)) (len := 3) rfl rfl rfl) ?_
    exact H _ _ R e0 e1 e2 ok_n
  · replace H := H.2 u3 rfl
    have ok_u3 := ok_o2 u3 rfl
    refine y_next (pc' := 10) (xst_of (i := (.ifnull 15)) (len := 3) rfl rfl rfl) ?_
    refine y_next (pc' := 11) (xst_of (i := (.aload_n 2)) (len := 1) rfl rfl (x_aloadV (xisV_r _) e2)) ?_
    refine z_gI (t := u3) (k := 8) rfl rfl rfl R ok_u3 ?_
    refine y_next (pc' := 15) (xst_of (i := (.iconst 1)) (len := 1) rfl rfl (x_ico (v := 1) (by decide))) ?_
    by_cases hc : (fI Y1 u3 8) = 1
    · replace H := H.1 hc
      refine y_next (pc' := 18) (xst_of (i := (.if_icmp .ne 7)) (len := 3) rfl rfl (xf_icmp_ne (t := 22) rfl (fun z => z hc))) ?_
      refine y_next (pc' := 19) (xst_of (i := (.aload_n 2)) (len := 1) rfl rfl (x_aloadV (xisV_r _) e2)) ?_
      refine y_next (pc' := 23) (xst_of (i := (.goto 4)) (len := 3) rfl rfl rfl) ?_
      exact H _ _ R e0 e1 e2 (ok_s ok_u3) (ok_s ok_u3)
    · replace H := H.2 hc
      refine y_next (xst_of (i := (.if_icmp .ne 7)) (len := 3) rfl rfl (xt_icmp_ne (t := 22) rfl hc)) ?_
      exact H _ _ R e0 e1 e2 (ok_s ok_u3)
theorem l_109_22 {V : xV} {g : xG} {Y : xW} {l1 : Int32} {l2 : Option xT} {Q : Option xT → xW → Prop} (H : L_109_23 V g Y l1 l2 none Q) : L_109_22 V g Y l1 l2 Q := by
  intro h lv R e0 e1 e2 ok_l2
  refine y_next (pc' := 23) (xst_of (i := .aconst_null) (len := 1) rfl rfl rfl) ?_
  exact H _ _ R e0 e1 e2 ok_l2 ok_n
theorem l_109_23 {V : xV} {g : xG} {Y : xW} {l1 : Int32} {l2 : Option xT} {s0 : Option xT} {Q : Option xT → xW → Prop} (H : Q s0 Y) : L_109_23 V g Y l1 l2 s0 Q := by
  intro h lv R e0 e1 e2 ok_l2 ok_s0
  exact y_ret (xst_of (i := .areturn) (len := 1) rfl rfl (x_aretV rfl (rv_V g s0))) ⟨s0, _, rfl, R, ok_s0, H⟩
theorem l_110_0 {V : xV} {g : xG} {Y : xW} {l1 : Int32} {Q : Option xT → xW → Prop} (H : ((l1 < 0) → L_110_21 V g Y l1 Q) ∧ (¬ (l1 < 0) → (((fI Y (9, 0, 0) 6) ≤ l1) → L_110_21 V g Y l1 Q) ∧ (¬ ((fI Y (9, 0, 0) 6) ≤ l1) → vp_in l1 300 ∧ ∀ o1, o1 = fR Y (9, 0, 0) 5 (Int32.toNatClampNeg l1) → L_110_22 V g Y l1 o1 Q))) : L_110_0 V g Y l1 Q := by
  intro h lv R e0 e1
  refine y_next (pc' := 1) (xst_of (i := (.iload_n 1)) (len := 1) rfl rfl (x_ilo e1)) ?_
  by_cases hc : l1 < 0
  · replace H := H.1 hc
    refine y_next (xst_of (i := (.ifCond .lt 20)) (len := 3) rfl rfl (xt_if_lt (t := 21) rfl hc)) ?_
    exact H _ _ R e0 e1
  · replace H := H.2 hc
    refine y_next (pc' := 4) (xst_of (i := (.ifCond .lt 20)) (len := 3) rfl rfl (xf_if_lt (t := 21) rfl hc)) ?_
    refine y_next (pc' := 5) (xst_of (i := (.iload_n 1)) (len := 1) rfl rfl (x_ilo e1)) ?_
    refine y_next (pc' := 6) (xst_of (i := (.aload_n 0)) (len := 1) rfl rfl (x_aloadV (xisV_r _) e0)) ?_
    refine z_gI (t := (9, 0, 0)) (k := 6) rfl rfl rfl R (rc_9 R) ?_
    by_cases hc : (fI Y (9, 0, 0) 6) ≤ l1
    · replace H := H.1 hc
      refine y_next (xst_of (i := (.if_icmp .ge 12)) (len := 3) rfl rfl (xt_icmp_ge (t := 21) rfl hc)) ?_
      exact H _ _ R e0 e1
    · replace H := H.2 hc
      refine y_next (pc' := 12) (xst_of (i := (.if_icmp .ge 12)) (len := 3) rfl rfl (xf_icmp_ge (t := 21) rfl hc)) ?_
      refine y_next (pc' := 13) (xst_of (i := (.aload_n 0)) (len := 1) rfl rfl (x_aloadV (xisV_r _) e0)) ?_
      refine z_gA (t := (9, 0, 0)) (k := 5) rfl rfl rfl R (rc_9 R) ?_
      refine y_next (pc' := 17) (xst_of (i := (.iload_n 1)) (len := 1) rfl rfl (x_ilo e1)) ?_
      refine z_aR (t := (9, 0, 0)) (k := 5) (m := 3) (n := 300) (i := l1) rfl rfl (by decide) R (rc_9 R) H.1 rfl (fun o1 ho ok_o1 => ?_)
      replace H := H.2 o1 ho
      clear ho
      refine y_next (pc' := 22) (xst_of (i := (.goto 4)) (len := 3) rfl rfl rfl) ?_
      exact H _ _ R e0 e1 ok_o1
theorem l_110_21 {V : xV} {g : xG} {Y : xW} {l1 : Int32} {Q : Option xT → xW → Prop} (H : L_110_22 V g Y l1 none Q) : L_110_21 V g Y l1 Q := by
  intro h lv R e0 e1
  refine y_next (pc' := 22) (xst_of (i := .aconst_null) (len := 1) rfl rfl rfl) ?_
  exact H _ _ R e0 e1 ok_n
theorem l_110_22 {V : xV} {g : xG} {Y : xW} {l1 : Int32} {s0 : Option xT} {Q : Option xT → xW → Prop} (H : Q s0 Y) : L_110_22 V g Y l1 s0 Q := by
  intro h lv R e0 e1 ok_s0
  exact y_ret (xst_of (i := .areturn) (len := 1) rfl rfl (x_aretV rfl (rv_V g s0))) ⟨s0, _, rfl, R, ok_s0, H⟩
theorem l_111_0 {V : xV} {g : xG} {Y : xW} {l1 : xT} {l2 : Int32} {l3 : Int32} {Q : xW → Prop} (H : L_63_0 V g Y l2 (fun Y1 => ((l2 = 0) → ∀ Y2, Y2 = uI Y1 (9, 0, 0) 10 0 → L_111_17 V g Y2 l1 l2 l3 Q) ∧ (¬ (l2 = 0) → L_111_17 V g Y1 l1 l2 l3 Q))) : L_111_0 V g Y l1 l2 l3 Q := by
  intro h lv R e0 e1 e2 e3 ok_l1
  refine y_next (pc' := 1) (xst_of (i := (.aload_n 0)) (len := 1) rfl rfl (x_aloadV (xisV_r _) e0)) ?_
  refine z_gO (t := (9, 0, 0)) (k := 8) rfl rfl rfl R (rc_9 R) ?_
  refine y_next (pc' := 5) (xst_of (i := (.iload_n 2)) (len := 1) rfl rfl (x_ilo e2)) ?_
  refine z_cN (k := 63) (i := (.invokevirtual 272)) (as := [.ref (g.2 (6, 0, 0) 0), .int l2]) (rest := []) rfl rfl (x_callv rfl rfl (rc_ob R (rc_6 R) rfl) rfl rfl) (H _ _ R rfl rfl) (fun h Y1 R H => ?_)
  refine y_next (pc' := 9) (xst_of (i := (.iload_n 2)) (len := 1) rfl rfl (x_ilo e2)) ?_
  by_cases hc : l2 = 0
  · replace H := H.1 hc
    refine y_next (pc' := 12) (xst_of (i := (.ifCond .ne 8)) (len := 3) rfl rfl (xf_if_ne (t := 17) rfl (fun z => z hc))) ?_
    refine y_next (pc' := 13) (xst_of (i := (.aload_n 0)) (len := 1) rfl rfl (x_aloadV (xisV_r _) e0)) ?_
    refine y_next (pc' := 14) (xst_of (i := (.iconst 0)) (len := 1) rfl rfl (x_ico (v := 0) (by decide))) ?_
    refine z_pI (t := (9, 0, 0)) (k := 10) rfl rfl rfl rfl rfl R (rc_9 R) (fun h Y2 hY R => ?_)
    replace H := H Y2 hY
    clear hY
    exact H _ _ R e0 e1 e2 e3 ok_l1
  · replace H := H.2 hc
    refine y_next (xst_of (i := (.ifCond .ne 8)) (len := 3) rfl rfl (xt_if_ne (t := 17) rfl hc)) ?_
    exact H _ _ R e0 e1 e2 e3 ok_l1
theorem l_111_17 {V : xV} {g : xG} {Y : xW} {l1 : xT} {l2 : Int32} {l3 : Int32} {Q : xW → Prop} (H : L_74_0 V g Y (fI Y l1 7) (fun Y1 => ∀ Y2, Y2 = uI Y1 l1 7 (-1) → ∀ Y3, Y3 = uI Y2 l1 8 l3 → Q Y3)) : L_111_17 V g Y l1 l2 l3 Q := by
  intro h lv R e0 e1 e2 e3 ok_l1
  refine y_next (pc' := 18) (xst_of (i := (.aload_n 0)) (len := 1) rfl rfl (x_aloadV (xisV_r _) e0)) ?_
  refine z_gO (t := (9, 0, 0)) (k := 7) rfl rfl rfl R (rc_9 R) ?_
  refine y_next (pc' := 22) (xst_of (i := (.aload_n 1)) (len := 1) rfl rfl (x_aloadV (xisV_r _) e1)) ?_
  refine z_gI (t := l1) (k := 7) rfl rfl rfl R ok_l1 ?_
  refine z_cN (k := 74) (i := (.invokevirtual 275)) (as := [.ref (g.2 (7, 0, 0) 0), .int (fI Y l1 7)]) (rest := []) rfl rfl (x_callv rfl rfl (rc_ob R (rc_7 R) rfl) rfl rfl) (H _ _ R rfl rfl) (fun h Y1 R H => ?_)
  refine y_next (pc' := 29) (xst_of (i := (.aload_n 1)) (len := 1) rfl rfl (x_aloadV (xisV_r _) e1)) ?_
  refine y_next (pc' := 30) (xst_of (i := (.iconst (-1))) (len := 1) rfl rfl (x_ico (v := (-1)) (by decide))) ?_
  refine z_pI (t := l1) (k := 7) rfl rfl rfl rfl rfl R ok_l1 (fun h Y2 hY R => ?_)
  replace H := H Y2 hY
  clear hY
  refine y_next (pc' := 34) (xst_of (i := (.aload_n 1)) (len := 1) rfl rfl (x_aloadV (xisV_r _) e1)) ?_
  refine y_next (pc' := 35) (xst_of (i := (.iload_n 3)) (len := 1) rfl rfl (x_ilo e3)) ?_
  refine z_pI (t := l1) (k := 8) rfl rfl rfl rfl rfl R ok_l1 (fun h Y3 hY R => ?_)
  replace H := H Y3 hY
  clear hY
  exact y_ret (xst_of (i := .return_) (len := 1) rfl rfl rfl) ⟨_, rfl, R, H⟩
theorem l_112_0 {V : xV} {g : xG} {Y : xW} {l0 : Int32} {Q : Int32 → xW → Prop} (H : ((l0 < 0) → L_112_14 V g Y l0 Q) ∧ (¬ (l0 < 0) → ((8 ≤ l0) → L_112_14 V g Y l0 Q) ∧ (¬ (8 ≤ l0) → L_112_15 V g Y l0 1 Q))) : L_112_0 V g Y l0 Q := by
  intro h lv R e0
  refine y_next (pc' := 1) (xst_of (i := (.iload_n 0)) (len := 1) rfl rfl (x_ilo e0)) ?_
  by_cases hc : l0 < 0
  · replace H := H.1 hc
    refine y_next (xst_of (i := (.ifCond .lt 13)) (len := 3) rfl rfl (xt_if_lt (t := 14) rfl hc)) ?_
    exact H _ _ R e0
  · replace H := H.2 hc
    refine y_next (pc' := 4) (xst_of (i := (.ifCond .lt 13)) (len := 3) rfl rfl (xf_if_lt (t := 14) rfl hc)) ?_
    refine y_next (pc' := 5) (xst_of (i := (.iload_n 0)) (len := 1) rfl rfl (x_ilo e0)) ?_
    refine y_next (pc' := 7) (xst_of (i := (.bipush 8)) (len := 2) rfl rfl (x_bip (v := 8) (by decide))) ?_
    by_cases hc : 8 ≤ l0
    · replace H := H.1 hc
      refine y_next (xst_of (i := (.if_icmp .ge 7)) (len := 3) rfl rfl (xt_icmp_ge (t := 14) rfl hc)) ?_
      exact H _ _ R e0
    · replace H := H.2 hc
      refine y_next (pc' := 10) (xst_of (i := (.if_icmp .ge 7)) (len := 3) rfl rfl (xf_icmp_ge (t := 14) rfl hc)) ?_
      refine y_next (pc' := 11) (xst_of (i := (.iconst 1)) (len := 1) rfl rfl (x_ico (v := 1) (by decide))) ?_
      refine y_next (pc' := 15) (xst_of (i := (.goto 4)) (len := 3) rfl rfl rfl) ?_
      exact H _ _ R e0
theorem l_112_14 {V : xV} {g : xG} {Y : xW} {l0 : Int32} {Q : Int32 → xW → Prop} (H : L_112_15 V g Y l0 0 Q) : L_112_14 V g Y l0 Q := by
  intro h lv R e0
  refine y_next (pc' := 15) (xst_of (i := (.iconst 0)) (len := 1) rfl rfl (x_ico (v := 0) (by decide))) ?_
  exact H _ _ R e0
theorem l_112_15 {V : xV} {g : xG} {Y : xW} {l0 : Int32} {s0 : Int32} {Q : Int32 → xW → Prop} (H : (s0 = 0 ∨ s0 = 1) ∧ Q s0 Y) : L_112_15 V g Y l0 s0 Q := by
  intro h lv R e0
  exact y_ret (xst_of (i := .ireturn) (len := 1) rfl rfl (x_zret rfl H.1)) ⟨_, _, rfl, R, H.2⟩
theorem l_113_0 {V : xV} {g : xG} {Y : xW} {l0 : Int32} {l1 : Int32} {l2 : Int32} {l3 : Int32} {Q : Int32 → xW → Prop} (H : L_112_0 V g Y l0 (fun x2 Y1 => ((x2 = 0) → L_113_29 V g Y1 l0 l1 l2 l3 Q) ∧ (¬ (x2 = 0) → ((l1 < 0) → L_113_29 V g Y1 l0 l1 l2 l3 Q) ∧ (¬ (l1 < 0) → ((2 < l1) → L_113_29 V g Y1 l0 l1 l2 l3 Q) ∧ (¬ (2 < l1) → ((l1 = 0) → L_113_25 V g Y1 l0 l1 l2 l3 Q) ∧ (¬ (l1 = 0) → ((l3 < l2) → L_113_29 V g Y1 l0 l1 l2 l3 Q) ∧ (¬ (l3 < l2) → L_113_25 V g Y1 l0 l1 l2 l3 Q))))))) : L_113_0 V g Y l0 l1 l2 l3 Q := by
  intro h lv R e0 e1 e2 e3
  refine y_next (pc' := 1) (xst_of (i := (.iload_n 0)) (len := 1) rfl rfl (x_ilo e0)) ?_
  refine z_cI (k := 112) (i := (.invokestatic 238)) (as := [.int l0]) (rest := []) rfl rfl rfl (H _ _ R rfl) (fun x2 h Y1 R H => ?_)
  by_cases hc : x2 = 0
  · replace H := H.1 hc
    refine y_next (xst_of (i := (.ifCond .eq 25)) (len := 3) rfl rfl (xt_if_eq (t := 29) rfl hc)) ?_
    exact H _ _ R e0 e1 e2 e3
  · replace H := H.2 hc
    refine y_next (pc' := 7) (xst_of (i := (.ifCond .eq 25)) (len := 3) rfl rfl (xf_if_eq (t := 29) rfl hc)) ?_
    refine y_next (pc' := 8) (xst_of (i := (.iload_n 1)) (len := 1) rfl rfl (x_ilo e1)) ?_
    by_cases hc : l1 < 0
    · replace H := H.1 hc
      refine y_next (xst_of (i := (.ifCond .lt 21)) (len := 3) rfl rfl (xt_if_lt (t := 29) rfl hc)) ?_
      exact H _ _ R e0 e1 e2 e3
    · replace H := H.2 hc
      refine y_next (pc' := 11) (xst_of (i := (.ifCond .lt 21)) (len := 3) rfl rfl (xf_if_lt (t := 29) rfl hc)) ?_
      refine y_next (pc' := 12) (xst_of (i := (.iload_n 1)) (len := 1) rfl rfl (x_ilo e1)) ?_
      refine y_next (pc' := 13) (xst_of (i := (.iconst 2)) (len := 1) rfl rfl (x_ico (v := 2) (by decide))) ?_
      by_cases hc : 2 < l1
      · replace H := H.1 hc
        refine y_next (xst_of (i := (.if_icmp .gt 16)) (len := 3) rfl rfl (xt_icmp_gt (t := 29) rfl hc)) ?_
        exact H _ _ R e0 e1 e2 e3
      · replace H := H.2 hc
        refine y_next (pc' := 16) (xst_of (i := (.if_icmp .gt 16)) (len := 3) rfl rfl (xf_icmp_gt (t := 29) rfl hc)) ?_
        refine y_next (pc' := 17) (xst_of (i := (.iload_n 1)) (len := 1) rfl rfl (x_ilo e1)) ?_
        by_cases hc : l1 = 0
        · replace H := H.1 hc
          refine y_next (xst_of (i := (.ifCond .eq 8)) (len := 3) rfl rfl (xt_if_eq (t := 25) rfl hc)) ?_
          exact H _ _ R e0 e1 e2 e3
        · replace H := H.2 hc
          refine y_next (pc' := 20) (xst_of (i := (.ifCond .eq 8)) (len := 3) rfl rfl (xf_if_eq (t := 25) rfl hc)) ?_
          refine y_next (pc' := 21) (xst_of (i := (.iload_n 2)) (len := 1) rfl rfl (x_ilo e2)) ?_
          refine y_next (pc' := 22) (xst_of (i := (.iload_n 3)) (len := 1) rfl rfl (x_ilo e3)) ?_
          by_cases hc : l3 < l2
          · replace H := H.1 hc
            refine y_next (xst_of (i := (.if_icmp .gt 7)) (len := 3) rfl rfl (xt_icmp_gt (t := 29) rfl hc)) ?_
            exact H _ _ R e0 e1 e2 e3
          · replace H := H.2 hc
            refine y_next (pc' := 25) (xst_of (i := (.if_icmp .gt 7)) (len := 3) rfl rfl (xf_icmp_gt (t := 29) rfl hc)) ?_
            exact H _ _ R e0 e1 e2 e3
theorem l_113_25 {V : xV} {g : xG} {Y : xW} {l0 : Int32} {l1 : Int32} {l2 : Int32} {l3 : Int32} {Q : Int32 → xW → Prop} (H : L_113_30 V g Y l0 l1 l2 l3 1 Q) : L_113_25 V g Y l0 l1 l2 l3 Q := by
  intro h lv R e0 e1 e2 e3
  refine y_next (pc' := 26) (xst_of (i := (.iconst 1)) (len := 1) rfl rfl (x_ico (v := 1) (by decide))) ?_
  refine y_next (pc' := 30) (xst_of (i := (.goto 4)) (len := 3) rfl rfl rfl) ?_
  exact H _ _ R e0 e1 e2 e3
theorem l_113_29 {V : xV} {g : xG} {Y : xW} {l0 : Int32} {l1 : Int32} {l2 : Int32} {l3 : Int32} {Q : Int32 → xW → Prop} (H : L_113_30 V g Y l0 l1 l2 l3 0 Q) : L_113_29 V g Y l0 l1 l2 l3 Q := by
  intro h lv R e0 e1 e2 e3
  refine y_next (pc' := 30) (xst_of (i := (.iconst 0)) (len := 1) rfl rfl (x_ico (v := 0) (by decide))) ?_
  exact H _ _ R e0 e1 e2 e3
theorem l_113_30 {V : xV} {g : xG} {Y : xW} {l0 : Int32} {l1 : Int32} {l2 : Int32} {l3 : Int32} {s0 : Int32} {Q : Int32 → xW → Prop} (H : (s0 = 0 ∨ s0 = 1) ∧ Q s0 Y) : L_113_30 V g Y l0 l1 l2 l3 s0 Q := by
  intro h lv R e0 e1 e2 e3
  exact y_ret (xst_of (i := .ireturn) (len := 1) rfl rfl (x_zret rfl H.1)) ⟨_, _, rfl, R, H.2⟩
theorem l_114_0 {V : xV} {g : xG} {Y : xW} {l0 : Int32} {Q : Int32 → xW → Prop} (H : L_117_0 V g Y l0 (fun x2 Y1 => ((x2 < 21) → vp_in x2 21 ∧ ((((xparts (Int32.toNatClampNeg x2)) &&& 1) = 0) → L_114_39 V g Y1 l0 x2 (xparts (Int32.toNatClampNeg x2)) ((Int32.toUInt32 l0 >>> (Int32.toUInt32 20 &&& Int32.toUInt32 31)).toInt32 &&& 15) 0 Q) ∧ (¬ (((xparts (Int32.toNatClampNeg x2)) &&& 1) = 0) → L_114_39 V g Y1 l0 x2 (xparts (Int32.toNatClampNeg x2)) ((Int32.toUInt32 l0 >>> (Int32.toUInt32 20 &&& Int32.toUInt32 31)).toInt32 &&& 15) 1 Q)) ∧ (¬ (x2 < 21) → ((0 : Int32) = 0 ∨ (0 : Int32) = 1) ∧ Q 0 Y1))) : L_114_0 V g Y l0 Q := by
  intro h lv R e0
  refine y_next (pc' := 1) (xst_of (i := (.iload_n 0)) (len := 1) rfl rfl (x_ilo e0)) ?_
  refine z_cI (k := 117) (i := (.invokestatic 278)) (as := [.int l0]) (rest := []) rfl rfl rfl (H _ _ R rfl) (fun x2 h Y1 R H => ?_)
  refine z_is (i := (.istore_n 1)) (len := 1) (pc' := 5) (q := 1) rfl rfl rfl (by decide) (fun lv1 hlv => ?_)
  have e0 := xs1_B hlv e0 rfl rfl
  have e1 := xs1_N hlv
  clear hlv
  refine y_next (pc' := 6) (xst_of (i := (.iload_n 1)) (len := 1) rfl rfl (x_ilo e1)) ?_
  refine y_next (pc' := 9) (xst_of (i := (.getstatic 281)) (len := 3) rfl rfl rfl) ?_
  refine z_Pn rfl R ?_
  by_cases hc : x2 < 21
  · replace H := H.1 hc
    refine y_next (xst_of (i := (.if_icmp .lt 5)) (len := 3) rfl rfl (xt_icmp_lt (t := 15) rfl hc)) ?_
    refine y_next (pc' := 18) (xst_of (i := (.getstatic 281)) (len := 3) rfl rfl rfl) ?_
    refine y_next (pc' := 19) (xst_of (i := (.iload_n 1)) (len := 1) rfl rfl (x_ilo e1)) ?_
    refine z_P (i := x2) rfl R H.1 ?_
    replace H := H.2
    refine z_is (i := (.istore_n 2)) (len := 1) (pc' := 21) (q := 2) rfl rfl rfl (by decide) (fun lv2 hlv => ?_)
    have e0 := xs1_A hlv e0 rfl rfl
    have e1 := xs1_B hlv e1 rfl rfl
    have e2 := xs1_N hlv
    clear hlv
    refine y_next (pc' := 22) (xst_of (i := (.iload_n 0)) (len := 1) rfl rfl (x_ilo e0)) ?_
    refine y_next (pc' := 24) (xst_of (i := (.bipush 20)) (len := 2) rfl rfl (x_bip (v := 20) (by decide))) ?_
    refine y_next (pc' := 25) (xst_of (i := .iushr) (len := 1) rfl rfl rfl) ?_
    refine y_next (pc' := 27) (xst_of (i := (.bipush 15)) (len := 2) rfl rfl (x_bip (v := 15) (by decide))) ?_
    refine y_next (pc' := 28) (xst_of (i := .iand) (len := 1) rfl rfl rfl) ?_
    refine y_next (pc' := 29) (xst_of (i := (.iload_n 2)) (len := 1) rfl rfl (x_ilo e2)) ?_
    refine y_next (pc' := 30) (xst_of (i := (.iconst 1)) (len := 1) rfl rfl (x_ico (v := 1) (by decide))) ?_
    refine y_next (pc' := 31) (xst_of (i := .iand) (len := 1) rfl rfl rfl) ?_
    by_cases hc : ((xparts (Int32.toNatClampNeg x2)) &&& 1) = 0
    · replace H := H.1 hc
      refine y_next (xst_of (i := (.ifCond .eq 7)) (len := 3) rfl rfl (xt_if_eq (t := 38) rfl hc)) ?_
      refine y_next (pc' := 39) (xst_of (i := (.iconst 0)) (len := 1) rfl rfl (x_ico (v := 0) (by decide))) ?_
      exact H _ _ R e0 e1 e2
    · replace H := H.2 hc
      refine y_next (pc' := 34) (xst_of (i := (.ifCond .eq 7)) (len := 3) rfl rfl (xf_if_eq (t := 38) rfl hc)) ?_
      refine y_next (pc' := 35) (xst_of (i := (.iconst 1)) (len := 1) rfl rfl (x_ico (v := 1) (by decide))) ?_
      refine y_next (pc' := 39) (xst_of (i := (.goto 4)) (len := 3) rfl rfl rfl) ?_
      exact H _ _ R e0 e1 e2
  · replace H := H.2 hc
    refine y_next (pc' := 13) (xst_of (i := (.if_icmp .lt 5)) (len := 3) rfl rfl (xf_icmp_lt (t := 15) rfl hc)) ?_
    refine y_next (pc' := 14) (xst_of (i := (.iconst 0)) (len := 1) rfl rfl (x_ico (v := 0) (by decide))) ?_
    exact y_ret (xst_of (i := .ireturn) (len := 1) rfl rfl (x_zret rfl H.1)) ⟨_, _, rfl, R, H.2⟩
theorem l_114_39 {V : xV} {g : xG} {Y : xW} {l0 : Int32} {l1 : Int32} {l2 : Int32} {s0 : Int32} {s1 : Int32} {Q : Int32 → xW → Prop} (H : L_115_0 V g Y s0 s1 (fun x2 Y1 => ((x2 = 0) → L_114_85 V g Y1 l0 l1 l2 Q) ∧ (¬ (x2 = 0) → (((l2 &&& 2) = 0) → L_114_63 V g Y1 l0 l1 l2 ((Int32.toUInt32 l0 >>> (Int32.toUInt32 16 &&& Int32.toUInt32 31)).toInt32 &&& 15) 0 Q) ∧ (¬ ((l2 &&& 2) = 0) → L_114_63 V g Y1 l0 l1 l2 ((Int32.toUInt32 l0 >>> (Int32.toUInt32 16 &&& Int32.toUInt32 31)).toInt32 &&& 15) 1 Q)))) : L_114_39 V g Y l0 l1 l2 s0 s1 Q := by
  intro h lv R e0 e1 e2
  refine z_cI (k := 115) (i := (.invokestatic 284)) (as := [.int s0, .int s1]) (rest := []) rfl rfl rfl (H _ _ R rfl rfl) (fun x2 h Y1 R H => ?_)
  by_cases hc : x2 = 0
  · replace H := H.1 hc
    refine y_next (xst_of (i := (.ifCond .eq 43)) (len := 3) rfl rfl (xt_if_eq (t := 85) rfl hc)) ?_
    exact H _ _ R e0 e1 e2
  · replace H := H.2 hc
    refine y_next (pc' := 45) (xst_of (i := (.ifCond .eq 43)) (len := 3) rfl rfl (xf_if_eq (t := 85) rfl hc)) ?_
    refine y_next (pc' := 46) (xst_of (i := (.iload_n 0)) (len := 1) rfl rfl (x_ilo e0)) ?_
    refine y_next (pc' := 48) (xst_of (i := (.bipush 16)) (len := 2) rfl rfl (x_bip (v := 16) (by decide))) ?_
    refine y_next (pc' := 49) (xst_of (i := .iushr) (len := 1) rfl rfl rfl) ?_
    refine y_next (pc' := 51) (xst_of (i := (.bipush 15)) (len := 2) rfl rfl (x_bip (v := 15) (by decide))) ?_
    refine y_next (pc' := 52) (xst_of (i := .iand) (len := 1) rfl rfl rfl) ?_
    refine y_next (pc' := 53) (xst_of (i := (.iload_n 2)) (len := 1) rfl rfl (x_ilo e2)) ?_
    refine y_next (pc' := 54) (xst_of (i := (.iconst 2)) (len := 1) rfl rfl (x_ico (v := 2) (by decide))) ?_
    refine y_next (pc' := 55) (xst_of (i := .iand) (len := 1) rfl rfl rfl) ?_
    by_cases hc : (l2 &&& 2) = 0
    · replace H := H.1 hc
      refine y_next (xst_of (i := (.ifCond .eq 7)) (len := 3) rfl rfl (xt_if_eq (t := 62) rfl hc)) ?_
      refine y_next (pc' := 63) (xst_of (i := (.iconst 0)) (len := 1) rfl rfl (x_ico (v := 0) (by decide))) ?_
      exact H _ _ R e0 e1 e2
    · replace H := H.2 hc
      refine y_next (pc' := 58) (xst_of (i := (.ifCond .eq 7)) (len := 3) rfl rfl (xf_if_eq (t := 62) rfl hc)) ?_
      refine y_next (pc' := 59) (xst_of (i := (.iconst 1)) (len := 1) rfl rfl (x_ico (v := 1) (by decide))) ?_
      refine y_next (pc' := 63) (xst_of (i := (.goto 4)) (len := 3) rfl rfl rfl) ?_
      exact H _ _ R e0 e1 e2
theorem l_114_63 {V : xV} {g : xG} {Y : xW} {l0 : Int32} {l1 : Int32} {l2 : Int32} {s0 : Int32} {s1 : Int32} {Q : Int32 → xW → Prop} (H : L_115_0 V g Y s0 s1 (fun x2 Y1 => ((x2 = 0) → L_114_85 V g Y1 l0 l1 l2 Q) ∧ (¬ (x2 = 0) → L_121_0 V g Y1 l0 (fun x4 Y3 => L_116_0 V g Y3 l1 l2 x4 (fun x6 Y5 => ((x6 = 0) → L_114_85 V g Y5 l0 l1 l2 Q) ∧ (¬ (x6 = 0) → L_114_86 V g Y5 l0 l1 l2 1 Q)))))) : L_114_63 V g Y l0 l1 l2 s0 s1 Q := by
  intro h lv R e0 e1 e2
  refine z_cI (k := 115) (i := (.invokestatic 284)) (as := [.int s0, .int s1]) (rest := []) rfl rfl rfl (H _ _ R rfl rfl) (fun x2 h Y1 R H => ?_)
  by_cases hc : x2 = 0
  · replace H := H.1 hc
    refine y_next (xst_of (i := (.ifCond .eq 19)) (len := 3) rfl rfl (xt_if_eq (t := 85) rfl hc)) ?_
    exact H _ _ R e0 e1 e2
  · replace H := H.2 hc
    refine y_next (pc' := 69) (xst_of (i := (.ifCond .eq 19)) (len := 3) rfl rfl (xf_if_eq (t := 85) rfl hc)) ?_
    refine y_next (pc' := 70) (xst_of (i := (.iload_n 1)) (len := 1) rfl rfl (x_ilo e1)) ?_
    refine y_next (pc' := 71) (xst_of (i := (.iload_n 2)) (len := 1) rfl rfl (x_ilo e2)) ?_
    refine y_next (pc' := 72) (xst_of (i := (.iload_n 0)) (len := 1) rfl rfl (x_ilo e0)) ?_
    refine z_cI (k := 121) (i := (.invokestatic 288)) (as := [.int l0]) (rest := [.int l2, .int l1]) rfl rfl rfl (H _ _ R rfl) (fun x4 h Y3 R H => ?_)
    refine z_cI (k := 116) (i := (.invokestatic 291)) (as := [.int l1, .int l2, .int x4]) (rest := []) rfl rfl rfl (H _ _ R rfl rfl rfl) (fun x6 h Y5 R H => ?_)
    by_cases hc : x6 = 0
    · replace H := H.1 hc
      refine y_next (xst_of (i := (.ifCond .eq 7)) (len := 3) rfl rfl (xt_if_eq (t := 85) rfl hc)) ?_
      exact H _ _ R e0 e1 e2
    · replace H := H.2 hc
      refine y_next (pc' := 81) (xst_of (i := (.ifCond .eq 7)) (len := 3) rfl rfl (xf_if_eq (t := 85) rfl hc)) ?_
      refine y_next (pc' := 82) (xst_of (i := (.iconst 1)) (len := 1) rfl rfl (x_ico (v := 1) (by decide))) ?_
      refine y_next (pc' := 86) (xst_of (i := (.goto 4)) (len := 3) rfl rfl rfl) ?_
      exact H _ _ R e0 e1 e2
theorem l_114_85 {V : xV} {g : xG} {Y : xW} {l0 : Int32} {l1 : Int32} {l2 : Int32} {Q : Int32 → xW → Prop} (H : L_114_86 V g Y l0 l1 l2 0 Q) : L_114_85 V g Y l0 l1 l2 Q := by
  intro h lv R e0 e1 e2
  refine y_next (pc' := 86) (xst_of (i := (.iconst 0)) (len := 1) rfl rfl (x_ico (v := 0) (by decide))) ?_
  exact H _ _ R e0 e1 e2
theorem l_114_86 {V : xV} {g : xG} {Y : xW} {l0 : Int32} {l1 : Int32} {l2 : Int32} {s0 : Int32} {Q : Int32 → xW → Prop} (H : (s0 = 0 ∨ s0 = 1) ∧ Q s0 Y) : L_114_86 V g Y l0 l1 l2 s0 Q := by
  intro h lv R e0 e1 e2
  exact y_ret (xst_of (i := .ireturn) (len := 1) rfl rfl (x_zret rfl H.1)) ⟨_, _, rfl, R, H.2⟩
theorem l_115_0 {V : xV} {g : xG} {Y : xW} {l0 : Int32} {l1 : Int32} {Q : Int32 → xW → Prop} (H : ((l1 = 0) → ((l0 = 0) → L_115_27 V g Y l0 l1 1 Q) ∧ (¬ (l0 = 0) → L_115_27 V g Y l0 l1 0 Q)) ∧ (¬ (l1 = 0) → ((8 ≤ l0) → L_115_27 V g Y l0 l1 0 Q) ∧ (¬ (8 ≤ l0) → L_115_27 V g Y l0 l1 1 Q))) : L_115_0 V g Y l0 l1 Q := by
  intro h lv R e0 e1
  refine y_next (pc' := 1) (xst_of (i := (.iload_n 1)) (len := 1) rfl rfl (x_ilo e1)) ?_
  by_cases hc : l1 = 0
  · replace H := H.1 hc
    refine y_next (xst_of (i := (.ifCond .eq 17)) (len := 3) rfl rfl (xt_if_eq (t := 18) rfl hc)) ?_
    refine y_next (pc' := 19) (xst_of (i := (.iload_n 0)) (len := 1) rfl rfl (x_ilo e0)) ?_
    by_cases hc : l0 = 0
    · replace H := H.1 hc
      refine y_next (pc' := 22) (xst_of (i := (.ifCond .ne 7)) (len := 3) rfl rfl (xf_if_ne (t := 26) rfl (fun z => z hc))) ?_
      refine y_next (pc' := 23) (xst_of (i := (.iconst 1)) (len := 1) rfl rfl (x_ico (v := 1) (by decide))) ?_
      refine y_next (pc' := 27) (xst_of (i := (.goto 4)) (len := 3) rfl rfl rfl) ?_
      exact H _ _ R e0 e1
    · replace H := H.2 hc
      refine y_next (xst_of (i := (.ifCond .ne 7)) (len := 3) rfl rfl (xt_if_ne (t := 26) rfl hc)) ?_
      refine y_next (pc' := 27) (xst_of (i := (.iconst 0)) (len := 1) rfl rfl (x_ico (v := 0) (by decide))) ?_
      exact H _ _ R e0 e1
  · replace H := H.2 hc
    refine y_next (pc' := 4) (xst_of (i := (.ifCond .eq 17)) (len := 3) rfl rfl (xf_if_eq (t := 18) rfl hc)) ?_
    refine y_next (pc' := 5) (xst_of (i := (.iload_n 0)) (len := 1) rfl rfl (x_ilo e0)) ?_
    refine y_next (pc' := 7) (xst_of (i := (.bipush 8)) (len := 2) rfl rfl (x_bip (v := 8) (by decide))) ?_
    by_cases hc : 8 ≤ l0
    · replace H := H.1 hc
      refine y_next (xst_of (i := (.if_icmp .ge 7)) (len := 3) rfl rfl (xt_icmp_ge (t := 14) rfl hc)) ?_
      refine y_next (pc' := 15) (xst_of (i := (.iconst 0)) (len := 1) rfl rfl (x_ico (v := 0) (by decide))) ?_
      refine y_next (pc' := 27) (xst_of (i := (.goto 12)) (len := 3) rfl rfl rfl) ?_
      exact H _ _ R e0 e1
    · replace H := H.2 hc
      refine y_next (pc' := 10) (xst_of (i := (.if_icmp .ge 7)) (len := 3) rfl rfl (xf_icmp_ge (t := 14) rfl hc)) ?_
      refine y_next (pc' := 11) (xst_of (i := (.iconst 1)) (len := 1) rfl rfl (x_ico (v := 1) (by decide))) ?_
      refine y_next (pc' := 27) (xst_of (i := (.goto 16)) (len := 3) rfl rfl rfl) ?_
      exact H _ _ R e0 e1
theorem l_115_27 {V : xV} {g : xG} {Y : xW} {l0 : Int32} {l1 : Int32} {s0 : Int32} {Q : Int32 → xW → Prop} (H : (s0 = 0 ∨ s0 = 1) ∧ Q s0 Y) : L_115_27 V g Y l0 l1 s0 Q := by
  intro h lv R e0 e1
  exact y_ret (xst_of (i := .ireturn) (len := 1) rfl rfl (x_zret rfl H.1)) ⟨_, _, rfl, R, H.2⟩
theorem l_116_0 {V : xV} {g : xG} {Y : xW} {l0 : Int32} {l1 : Int32} {l2 : Int32} {Q : Int32 → xW → Prop} (H : (((l1 &&& 8) = 0) → (((l2 &&& 4095) = 0) → (((l1 &&& 4) = 0) → L_116_48 V g Y l0 l1 l2 ((Int32.toUInt32 l2 >>> (Int32.toUInt32 12 &&& Int32.toUInt32 31)).toInt32) 0 Q) ∧ (¬ ((l1 &&& 4) = 0) → L_116_48 V g Y l0 l1 l2 ((Int32.toUInt32 l2 >>> (Int32.toUInt32 12 &&& Int32.toUInt32 31)).toInt32) 1 Q)) ∧ (¬ ((l2 &&& 4095) = 0) → L_116_58 V g Y l0 l1 l2 Q)) ∧ (¬ ((l1 &&& 8) = 0) → ((l0 = 11) → ((31 < l2) → L_116_24 V g Y l0 l1 l2 0 Q) ∧ (¬ (31 < l2) → L_116_19 V g Y l0 l1 l2 Q)) ∧ (¬ (l0 = 11) → L_116_19 V g Y l0 l1 l2 Q))) : L_116_0 V g Y l0 l1 l2 Q := by
  intro h lv R e0 e1 e2
  refine y_next (pc' := 1) (xst_of (i := (.iload_n 1)) (len := 1) rfl rfl (x_ilo e1)) ?_
  refine y_next (pc' := 3) (xst_of (i := (.bipush 8)) (len := 2) rfl rfl (x_bip (v := 8) (by decide))) ?_
  refine y_next (pc' := 4) (xst_of (i := .iand) (len := 1) rfl rfl rfl) ?_
  by_cases hc : (l1 &&& 8) = 0
  · replace H := H.1 hc
    refine y_next (xst_of (i := (.ifCond .eq 21)) (len := 3) rfl rfl (xt_if_eq (t := 25) rfl hc)) ?_
    refine y_next (pc' := 26) (xst_of (i := (.iload_n 2)) (len := 1) rfl rfl (x_ilo e2)) ?_
    refine y_next (pc' := 29) (xst_of (i := (.sipush 4095)) (len := 3) rfl rfl (x_sip (v := 4095) (by decide))) ?_
    refine y_next (pc' := 30) (xst_of (i := .iand) (len := 1) rfl rfl rfl) ?_
    by_cases hc : (l2 &&& 4095) = 0
    · replace H := H.1 hc
      refine y_next (pc' := 33) (xst_of (i := (.ifCond .ne 28)) (len := 3) rfl rfl (xf_if_ne (t := 58) rfl (fun z => z hc))) ?_
      refine y_next (pc' := 34) (xst_of (i := (.iload_n 2)) (len := 1) rfl rfl (x_ilo e2)) ?_
      refine y_next (pc' := 36) (xst_of (i := (.bipush 12)) (len := 2) rfl rfl (x_bip (v := 12) (by decide))) ?_
      refine y_next (pc' := 37) (xst_of (i := .iushr) (len := 1) rfl rfl rfl) ?_
      refine y_next (pc' := 38) (xst_of (i := (.iload_n 1)) (len := 1) rfl rfl (x_ilo e1)) ?_
      refine y_next (pc' := 39) (xst_of (i := (.iconst 4)) (len := 1) rfl rfl (x_ico (v := 4) (by decide))) ?_
      refine y_next (pc' := 40) (xst_of (i := .iand) (len := 1) rfl rfl rfl) ?_
      by_cases hc : (l1 &&& 4) = 0
      · replace H := H.1 hc
        refine y_next (xst_of (i := (.ifCond .eq 7)) (len := 3) rfl rfl (xt_if_eq (t := 47) rfl hc)) ?_
        refine y_next (pc' := 48) (xst_of (i := (.iconst 0)) (len := 1) rfl rfl (x_ico (v := 0) (by decide))) ?_
        exact H _ _ R e0 e1 e2
      · replace H := H.2 hc
        refine y_next (pc' := 43) (xst_of (i := (.ifCond .eq 7)) (len := 3) rfl rfl (xf_if_eq (t := 47) rfl hc)) ?_
        refine y_next (pc' := 44) (xst_of (i := (.iconst 1)) (len := 1) rfl rfl (x_ico (v := 1) (by decide))) ?_
        refine y_next (pc' := 48) (xst_of (i := (.goto 4)) (len := 3) rfl rfl rfl) ?_
        exact H _ _ R e0 e1 e2
    · replace H := H.2 hc
      refine y_next (xst_of (i := (.ifCond .ne 28)) (len := 3) rfl rfl (xt_if_ne (t := 58) rfl hc)) ?_
      exact H _ _ R e0 e1 e2
  · replace H := H.2 hc
    refine y_next (pc' := 7) (xst_of (i := (.ifCond .eq 21)) (len := 3) rfl rfl (xf_if_eq (t := 25) rfl hc)) ?_
    refine y_next (pc' := 8) (xst_of (i := (.iload_n 0)) (len := 1) rfl rfl (x_ilo e0)) ?_
    refine y_next (pc' := 10) (xst_of (i := (.bipush 11)) (len := 2) rfl rfl (x_bip (v := 11) (by decide))) ?_
    by_cases hc : l0 = 11
    · replace H := H.1 hc
      refine y_next (pc' := 13) (xst_of (i := (.if_icmp .ne 9)) (len := 3) rfl rfl (xf_icmp_ne (t := 19) rfl (fun z => z hc))) ?_
      refine y_next (pc' := 14) (xst_of (i := (.iload_n 2)) (len := 1) rfl rfl (x_ilo e2)) ?_
      refine y_next (pc' := 16) (xst_of (i := (.bipush 31)) (len := 2) rfl rfl (x_bip (v := 31) (by decide))) ?_
      by_cases hc : 31 < l2
      · replace H := H.1 hc
        refine y_next (xst_of (i := (.if_icmp .gt 7)) (len := 3) rfl rfl (xt_icmp_gt (t := 23) rfl hc)) ?_
        refine y_next (pc' := 24) (xst_of (i := (.iconst 0)) (len := 1) rfl rfl (x_ico (v := 0) (by decide))) ?_
        exact H _ _ R e0 e1 e2
      · replace H := H.2 hc
        refine y_next (pc' := 19) (xst_of (i := (.if_icmp .gt 7)) (len := 3) rfl rfl (xf_icmp_gt (t := 23) rfl hc)) ?_
        exact H _ _ R e0 e1 e2
    · replace H := H.2 hc
      refine y_next (xst_of (i := (.if_icmp .ne 9)) (len := 3) rfl rfl (xt_icmp_ne (t := 19) rfl hc)) ?_
      exact H _ _ R e0 e1 e2
theorem l_116_19 {V : xV} {g : xG} {Y : xW} {l0 : Int32} {l1 : Int32} {l2 : Int32} {Q : Int32 → xW → Prop} (H : L_116_24 V g Y l0 l1 l2 1 Q) : L_116_19 V g Y l0 l1 l2 Q := by
  intro h lv R e0 e1 e2
  refine y_next (pc' := 20) (xst_of (i := (.iconst 1)) (len := 1) rfl rfl (x_ico (v := 1) (by decide))) ?_
  refine y_next (pc' := 24) (xst_of (i := (.goto 4)) (len := 3) rfl rfl rfl) ?_
  exact H _ _ R e0 e1 e2
theorem l_116_24 {V : xV} {g : xG} {Y : xW} {l0 : Int32} {l1 : Int32} {l2 : Int32} {s0 : Int32} {Q : Int32 → xW → Prop} (H : (s0 = 0 ∨ s0 = 1) ∧ Q s0 Y) : L_116_24 V g Y l0 l1 l2 s0 Q := by
  intro h lv R e0 e1 e2
  exact y_ret (xst_of (i := .ireturn) (len := 1) rfl rfl (x_zret rfl H.1)) ⟨_, _, rfl, R, H.2⟩
theorem l_116_48 {V : xV} {g : xG} {Y : xW} {l0 : Int32} {l1 : Int32} {l2 : Int32} {s0 : Int32} {s1 : Int32} {Q : Int32 → xW → Prop} (H : L_115_0 V g Y s0 s1 (fun x2 Y1 => ((x2 = 0) → L_116_58 V g Y1 l0 l1 l2 Q) ∧ (¬ (x2 = 0) → L_116_59 V g Y1 l0 l1 l2 1 Q))) : L_116_48 V g Y l0 l1 l2 s0 s1 Q := by
  intro h lv R e0 e1 e2
  refine z_cI (k := 115) (i := (.invokestatic 284)) (as := [.int s0, .int s1]) (rest := []) rfl rfl rfl (H _ _ R rfl rfl) (fun x2 h Y1 R H => ?_)
  by_cases hc : x2 = 0
  · replace H := H.1 hc
    refine y_next (xst_of (i := (.ifCond .eq 7)) (len := 3) rfl rfl (xt_if_eq (t := 58) rfl hc)) ?_
    exact H _ _ R e0 e1 e2
  · replace H := H.2 hc
    refine y_next (pc' := 54) (xst_of (i := (.ifCond .eq 7)) (len := 3) rfl rfl (xf_if_eq (t := 58) rfl hc)) ?_
    refine y_next (pc' := 55) (xst_of (i := (.iconst 1)) (len := 1) rfl rfl (x_ico (v := 1) (by decide))) ?_
    refine y_next (pc' := 59) (xst_of (i := (.goto 4)) (len := 3) rfl rfl rfl) ?_
    exact H _ _ R e0 e1 e2
theorem l_116_58 {V : xV} {g : xG} {Y : xW} {l0 : Int32} {l1 : Int32} {l2 : Int32} {Q : Int32 → xW → Prop} (H : L_116_59 V g Y l0 l1 l2 0 Q) : L_116_58 V g Y l0 l1 l2 Q := by
  intro h lv R e0 e1 e2
  refine y_next (pc' := 59) (xst_of (i := (.iconst 0)) (len := 1) rfl rfl (x_ico (v := 0) (by decide))) ?_
  exact H _ _ R e0 e1 e2
theorem l_116_59 {V : xV} {g : xG} {Y : xW} {l0 : Int32} {l1 : Int32} {l2 : Int32} {s0 : Int32} {Q : Int32 → xW → Prop} (H : (s0 = 0 ∨ s0 = 1) ∧ Q s0 Y) : L_116_59 V g Y l0 l1 l2 s0 Q := by
  intro h lv R e0 e1 e2
  exact y_ret (xst_of (i := .ireturn) (len := 1) rfl rfl (x_zret rfl H.1)) ⟨_, _, rfl, R, H.2⟩
theorem l_117_0 {V : xV} {g : xG} {Y : xW} {l0 : Int32} {Q : Int32 → xW → Prop} (H : Q ((Int32.toUInt32 l0 >>> (Int32.toUInt32 24 &&& Int32.toUInt32 31)).toInt32) Y) : L_117_0 V g Y l0 Q := by
  intro h lv R e0
  refine y_next (pc' := 1) (xst_of (i := (.iload_n 0)) (len := 1) rfl rfl (x_ilo e0)) ?_
  refine y_next (pc' := 3) (xst_of (i := (.bipush 24)) (len := 2) rfl rfl (x_bip (v := 24) (by decide))) ?_
  refine y_next (pc' := 4) (xst_of (i := .iushr) (len := 1) rfl rfl rfl) ?_
  exact y_ret (xst_of (i := .ireturn) (len := 1) rfl rfl rfl) ⟨_, _, rfl, R, H⟩
theorem l_118_0 {V : xV} {g : xG} {Y : xW} {l0 : Int32} {Q : Int32 → xW → Prop} (H : Q ((Int32.toUInt32 l0 >>> (Int32.toUInt32 20 &&& Int32.toUInt32 31)).toInt32 &&& 7) Y) : L_118_0 V g Y l0 Q := by
  intro h lv R e0
  refine y_next (pc' := 1) (xst_of (i := (.iload_n 0)) (len := 1) rfl rfl (x_ilo e0)) ?_
  refine y_next (pc' := 3) (xst_of (i := (.bipush 20)) (len := 2) rfl rfl (x_bip (v := 20) (by decide))) ?_
  refine y_next (pc' := 4) (xst_of (i := .iushr) (len := 1) rfl rfl rfl) ?_
  refine y_next (pc' := 6) (xst_of (i := (.bipush 7)) (len := 2) rfl rfl (x_bip (v := 7) (by decide))) ?_
  refine y_next (pc' := 7) (xst_of (i := .iand) (len := 1) rfl rfl rfl) ?_
  exact y_ret (xst_of (i := .ireturn) (len := 1) rfl rfl rfl) ⟨_, _, rfl, R, H⟩
theorem l_119_0 {V : xV} {g : xG} {Y : xW} {l0 : Int32} {Q : Int32 → xW → Prop} (H : Q ((Int32.toUInt32 l0 >>> (Int32.toUInt32 16 &&& Int32.toUInt32 31)).toInt32 &&& 7) Y) : L_119_0 V g Y l0 Q := by
  intro h lv R e0
  refine y_next (pc' := 1) (xst_of (i := (.iload_n 0)) (len := 1) rfl rfl (x_ilo e0)) ?_
  refine y_next (pc' := 3) (xst_of (i := (.bipush 16)) (len := 2) rfl rfl (x_bip (v := 16) (by decide))) ?_
  refine y_next (pc' := 4) (xst_of (i := .iushr) (len := 1) rfl rfl rfl) ?_
  refine y_next (pc' := 6) (xst_of (i := (.bipush 7)) (len := 2) rfl rfl (x_bip (v := 7) (by decide))) ?_
  refine y_next (pc' := 7) (xst_of (i := .iand) (len := 1) rfl rfl rfl) ?_
  exact y_ret (xst_of (i := .ireturn) (len := 1) rfl rfl rfl) ⟨_, _, rfl, R, H⟩
theorem l_120_0 {V : xV} {g : xG} {Y : xW} {l0 : Int32} {Q : Int32 → xW → Prop} (H : Q ((Int32.toUInt32 l0 >>> (Int32.toUInt32 12 &&& Int32.toUInt32 31)).toInt32 &&& 7) Y) : L_120_0 V g Y l0 Q := by
  intro h lv R e0
  refine y_next (pc' := 1) (xst_of (i := (.iload_n 0)) (len := 1) rfl rfl (x_ilo e0)) ?_
  refine y_next (pc' := 3) (xst_of (i := (.bipush 12)) (len := 2) rfl rfl (x_bip (v := 12) (by decide))) ?_
  refine y_next (pc' := 4) (xst_of (i := .iushr) (len := 1) rfl rfl rfl) ?_
  refine y_next (pc' := 6) (xst_of (i := (.bipush 7)) (len := 2) rfl rfl (x_bip (v := 7) (by decide))) ?_
  refine y_next (pc' := 7) (xst_of (i := .iand) (len := 1) rfl rfl rfl) ?_
  exact y_ret (xst_of (i := .ireturn) (len := 1) rfl rfl rfl) ⟨_, _, rfl, R, H⟩
theorem l_121_0 {V : xV} {g : xG} {Y : xW} {l0 : Int32} {Q : Int32 → xW → Prop} (H : Q (l0 &&& 65535) Y) : L_121_0 V g Y l0 Q := by
  intro h lv R e0
  refine y_next (pc' := 1) (xst_of (i := (.iload_n 0)) (len := 1) rfl rfl (x_ilo e0)) ?_
  refine y_next (pc' := 4) (xst_of (i := (.ldc_w 295)) (len := 3) rfl rfl rfl) ?_
  refine y_next (pc' := 5) (xst_of (i := .iand) (len := 1) rfl rfl rfl) ?_
  exact y_ret (xst_of (i := .ireturn) (len := 1) rfl rfl rfl) ⟨_, _, rfl, R, H⟩
theorem l_122_0 {V : xV} {g : xG} {Y : xW} {l0 : Int32} {Q : Int32 → xW → Prop} (H : Q ((Int32.toInt16 l0).toInt32) Y) : L_122_0 V g Y l0 Q := by
  intro h lv R e0
  refine y_next (pc' := 1) (xst_of (i := (.iload_n 0)) (len := 1) rfl rfl (x_ilo e0)) ?_
  refine y_next (pc' := 2) (xst_of (i := .i2s) (len := 1) rfl rfl rfl) ?_
  exact y_ret (xst_of (i := .ireturn) (len := 1) rfl rfl rfl) ⟨_, _, rfl, R, H⟩
