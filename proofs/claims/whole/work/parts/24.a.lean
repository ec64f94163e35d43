theorem l_2_0 {V : xV} {g : xG} {Y : xW} {l1 : xT} {Q : Int32 → xW → Prop} (H : (((fI Y l1 5) = 0) → Q 1 Y) ∧ (¬ ((fI Y l1 5) = 0) → ((0 : Int32) = 0 ∨ (0 : Int32) = 1) ∧ ∀ Y1, Y1 = uI Y (1, 0, 0) 2 0 → ∀ Y2, Y2 = uI Y1 (1, 0, 0) 3 0 → L_2_21 V g Y2 l1 0 Q)) : L_2_0 V g Y l1 Q := by
  intro h lv R e0 e1 ok_l1
  refine y_next (pc' := 1) (xst_of (i := (.aload_n 1)) (len := 1) rfl rfl (x_aloadV (xisV_r _) e1)) ?_
  refine z_gI (t := l1) (k := 5) rfl rfl rfl R ok_l1 ?_
  by_cases hc : (fI Y l1 5) = 0
  · replace H := H.1 hc
    refine y_next (pc' := 7) (xst_of (i := (.ifCond .ne 5)) (len := 3) rfl rfl (xf_if_ne (t := 9) rfl (fun z => z hc))) ?_
    refine y_next (pc' := 8) (xst_of (i := (.iconst 1)) (len := 1) rfl rfl (x_ico (v := 1) (by decide))) ?_
    exact y_ret (xst_of (i := .ireturn) (len := 1) rfl rfl rfl) ⟨_, _, rfl, R, H⟩
  · replace H := H.2 hc
    refine y_next (xst_of (i := (.ifCond .ne 5)) (len := 3) rfl rfl (xt_if_ne (t := 9) rfl hc)) ?_
    refine y_next (pc' := 10) (xst_of (i := (.aload_n 0)) (len := 1) rfl rfl (x_aloadV (xisV_r _) e0)) ?_
    refine y_next (pc' := 11) (xst_of (i := (.iconst 0)) (len := 1) rfl rfl (x_ico (v := 0) (by decide))) ?_
    have hz := H.1
    replace H := H.2
    refine z_pI (t := (1, 0, 0)) (k := 2) rfl rfl rfl (xfit_z hz) rfl R (rc_1 R) (fun h Y1 hY R => ?_)
    replace H := H Y1 hY
    clear hY
    refine y_next (pc' := 15) (xst_of (i := (.aload_n 0)) (len := 1) rfl rfl (x_aloadV (xisV_r _) e0)) ?_
    refine y_next (pc' := 16) (xst_of (i := (.iconst 0)) (len := 1) rfl rfl (x_ico (v := 0) (by decide))) ?_
    refine z_pI (t := (1, 0, 0)) (k := 3) rfl rfl rfl rfl rfl R (rc_1 R) (fun h Y2 hY R => ?_)
    replace H := H Y2 hY
    clear hY
    refine y_next (pc' := 20) (xst_of (i := (.iconst 0)) (len := 1) rfl rfl (x_ico (v := 0) (by decide))) ?_
    refine z_is (i := (.istore_n 2)) (len := 1) (pc' := 21) (q := 2) rfl rfl rfl (by decide) (fun lv1 hlv => ?_)
    have e0 := xs1_A hlv e0 rfl rfl
    have e1 := xs1_B hlv e1 rfl rfl
    have e2 := xs1_N hlv
    clear hlv
    exact H _ _ R e0 e1 e2 ok_l1
theorem l_2_21 {V : xV} {g : xG} {Y : xW} {l1 : xT} {l2 : Int32} {Q : Int32 → xW → Prop} (H : (((fI Y l1 5) ≤ l2) → Q 0 Y) ∧ (¬ ((fI Y l1 5) ≤ l2) → L_44_0 V g Y l1 l2 (fun o2 Y1 => L_3_0 V g Y1 o2 l2 (fun x4 Y3 => ((x4 = 0) → L_5_0 V g Y3 l1 l2 (fun x6 Y5 => L_2_51 V g Y5 l1 l2 x6 Q)) ∧ (¬ (x4 = 0) → L_2_51 V g Y3 l1 l2 x4 Q))))) : L_2_21 V g Y l1 l2 Q := by
  intro h lv R e0 e1 e2 ok_l1
  refine y_next (pc' := 22) (xst_of (i := (.iload_n 2)) (len := 1) rfl rfl (x_ilo e2)) ?_
  refine y_next (pc' := 23) (xst_of (i := (.aload_n 1)) (len := 1) rfl rfl (x_aloadV (xisV_r _) e1)) ?_
  refine z_gI (t := l1) (k := 5) rfl rfl rfl R ok_l1 ?_
  by_cases hc : (fI Y l1 5) ≤ l2
  · replace H := H.1 hc
    refine y_next (xst_of (i := (.if_icmp .ge 42)) (len := 3) rfl rfl (xt_icmp_ge (t := 68) rfl hc)) ?_
    refine y_next (pc' := 69) (xst_of (i := (.iconst 0)) (len := 1) rfl rfl (x_ico (v := 0) (by decide))) ?_
    exact y_ret (xst_of (i := .ireturn) (len := 1) rfl rfl rfl) ⟨_, _, rfl, R, H⟩
  · replace H := H.2 hc
    refine y_next (pc' := 29) (xst_of (i := (.if_icmp .ge 42)) (len := 3) rfl rfl (xf_icmp_ge (t := 68) rfl hc)) ?_
    refine y_next (pc' := 30) (xst_of (i := (.aload_n 0)) (len := 1) rfl rfl (x_aloadV (xisV_r _) e0)) ?_
    refine y_next (pc' := 31) (xst_of (i := (.aload_n 1)) (len := 1) rfl rfl (x_aloadV (xisV_r _) e1)) ?_
    refine y_next (pc' := 32) (xst_of (i := (.iload_n 2)) (len := 1) rfl rfl (x_ilo e2)) ?_
    refine z_cR (c := 2) (k := 44) (i := (.invokevirtual 34)) (as := [.ref (g.2 l1 0), .int l2]) (rest := [.ref (g.2 (1, 0, 0) 0)]) rfl rfl (x_callv rfl rfl (rc_ob R ok_l1 rfl) rfl rfl) (H _ _ R rfl rfl ok_l1) (fun o2 h Y1 R ok_o2 H => ?_)
    refine y_next (pc' := 36) (xst_of (i := (.iload_n 2)) (len := 1) rfl rfl (x_ilo e2)) ?_
    refine z_cI (k := 3) (i := (.invokevirtual 38)) (as := [.ref (g.2 (1, 0, 0) 0), xrv g o2, .int l2]) (rest := []) rfl rfl (by rcases o2 with _ | _; all_goals exact x_callv rfl rfl (rc_ob R (rc_1 R) rfl) rfl rfl) (H _ _ R (by rcases o2 with _ | _ <;> rfl) (by rcases o2 with _ | _ <;> rfl) (by rcases o2 with _ | _ <;> rfl) ok_o2) (fun x4 h Y3 R H => ?_)
    refine z_is (i := (.istore_n 3)) (len := 1) (pc' := 40) (q := 3) rfl rfl rfl (by decide) (fun lv1 hlv => ?_)
    have e0 := xs1_A hlv e0 rfl rfl
    have e1 := xs1_A hlv e1 rfl rfl
    have e2 := xs1_B hlv e2 rfl rfl
    have e3 := xs1_N hlv
    clear hlv
    refine y_next (pc' := 41) (xst_of (i := (.iload_n 3)) (len := 1) rfl rfl (x_ilo e3)) ?_
    by_cases hc : x4 = 0
    · replace H := H.1 hc
      refine y_next (pc' := 44) (xst_of (i := (.ifCond .ne 10)) (len := 3) rfl rfl (xf_if_ne (t := 51) rfl (fun z => z hc))) ?_
      refine y_next (pc' := 45) (xst_of (i := (.aload_n 0)) (len := 1) rfl rfl (x_aloadV (xisV_r _) e0)) ?_
      refine y_next (pc' := 46) (xst_of (i := (.aload_n 1)) (len := 1) rfl rfl (x_aloadV (xisV_r _) e1)) ?_
      refine y_next (pc' := 47) (xst_of (i := (.iload_n 2)) (len := 1) rfl rfl (x_ilo e2)) ?_
      refine z_cI (k := 5) (i := (.invokevirtual 42)) (as := [.ref (g.2 (1, 0, 0) 0), .ref (g.2 l1 0), .int l2]) (rest := []) rfl rfl (x_callv rfl rfl (rc_ob R (rc_1 R) rfl) rfl rfl) (H _ _ R rfl rfl rfl ok_l1) (fun x6 h Y5 R H => ?_)
      refine z_is (i := (.istore_n 3)) (len := 1) (pc' := 51) (q := 3) rfl rfl rfl (by decide) (fun lv2 hlv => ?_)
      have e0 := xs1_A hlv e0 rfl rfl
      have e1 := xs1_A hlv e1 rfl rfl
      have e2 := xs1_B hlv e2 rfl rfl
      have e3 := xs1_N hlv
      clear hlv
      exact H _ _ R e0 e1 e2 e3 ok_l1
    · replace H := H.2 hc
      refine y_next (xst_of (i := (.ifCond .ne 10)) (len := 3) rfl rfl (xt_if_ne (t := 51) rfl hc)) ?_
      exact H _ _ R e0 e1 e2 e3 ok_l1
theorem l_2_51 {V : xV} {g : xG} {Y : xW} {l1 : xT} {l2 : Int32} {l3 : Int32} {Q : Int32 → xW → Prop} (H : ((l3 = 0) → L_2_21 V g Y l1 (l2 + 1) Q) ∧ (¬ (l3 = 0) → Q ((16 * l2) + l3) Y)) : L_2_51 V g Y l1 l2 l3 Q := by
  intro h lv R e0 e1 e2 e3 ok_l1
  refine y_next (pc' := 52) (xst_of (i := (.iload_n 3)) (len := 1) rfl rfl (x_ilo e3)) ?_
  by_cases hc : l3 = 0
  · replace H := H.1 hc
    refine y_next (xst_of (i := (.ifCond .eq 10)) (len := 3) rfl rfl (xt_if_eq (t := 62) rfl hc)) ?_
    refine z_in (q := 2) (n := 1) (v := 1) rfl e2 (by decide) (by decide) (fun lv1 hlv => ?_)
    have e0 := xs1_A hlv e0 rfl rfl
    have e1 := xs1_B hlv e1 rfl rfl
    have e3 := xs1_A hlv e3 rfl rfl
    have e2 := xs1_N hlv
    clear hlv
    refine y_next (pc' := 21) (xst_of (i := (.goto (-44))) (len := 3) rfl rfl rfl) ?_
    exact H _ _ R e0 e1 e2 ok_l1
  · replace H := H.2 hc
    refine y_next (pc' := 55) (xst_of (i := (.ifCond .eq 10)) (len := 3) rfl rfl (xf_if_eq (t := 62) rfl hc)) ?_
    refine y_next (pc' := 57) (xst_of (i := (.bipush 16)) (len := 2) rfl rfl (x_bip (v := 16) (by decide))) ?_
    refine y_next (pc' := 58) (xst_of (i := (.iload_n 2)) (len := 1) rfl rfl (x_ilo e2)) ?_
    refine y_next (pc' := 59) (xst_of (i := .imul) (len := 1) rfl rfl rfl) ?_
    refine y_next (pc' := 60) (xst_of (i := (.iload_n 3)) (len := 1) rfl rfl (x_ilo e3)) ?_
    refine y_next (pc' := 61) (xst_of (i := .iadd) (len := 1) rfl rfl rfl) ?_
    exact y_ret (xst_of (i := .ireturn) (len := 1) rfl rfl rfl) ⟨_, _, rfl, R, H⟩
theorem l_3_0 {V : xV} {g : xG} {Y : xW} {l1 : Option xT} {l2 : Int32} {Q : Int32 → xW → Prop} (H : ((l2 = 0) → L_4_0 V g Y l1 (fun x2 Y1 => ((x2 = 0) → Q 12 Y1) ∧ (¬ (x2 = 0) → L_3_14 V g Y1 l1 l2 Q))) ∧ (¬ (l2 = 0) → L_3_14 V g Y l1 l2 Q)) : L_3_0 V g Y l1 l2 Q := by
  intro h lv R e0 e1 e2 ok_l1
  refine y_next (pc' := 1) (xst_of (i := (.iload_n 2)) (len := 1) rfl rfl (x_ilo e2)) ?_
  by_cases hc : l2 = 0
  · replace H := H.1 hc
    refine y_next (pc' := 4) (xst_of (i := (.ifCond .ne 13)) (len := 3) rfl rfl (xf_if_ne (t := 14) rfl (fun z => z hc))) ?_
    refine y_next (pc' := 5) (xst_of (i := (.aload_n 1)) (len := 1) rfl rfl (x_aloadV (rv_V g l1) e1)) ?_
    refine z_cI (k := 4) (i := (.invokestatic 46)) (as := [xrv g l1]) (rest := []) rfl rfl (by rcases l1 with _ | _ <;> rfl) (H _ _ R (by rcases l1 with _ | _ <;> rfl) ok_l1) (fun x2 h Y1 R H => ?_)
    by_cases hc : x2 = 0
    · replace H := H.1 hc
      refine y_next (pc' := 11) (xst_of (i := (.ifCond .ne 6)) (len := 3) rfl rfl (xf_if_ne (t := 14) rfl (fun z => z hc))) ?_
      refine y_next (pc' := 13) (xst_of (i := (.bipush 12)) (len := 2) rfl rfl (x_bip (v := 12) (by decide))) ?_
      exact y_ret (xst_of (i := .ireturn) (len := 1) rfl rfl rfl) ⟨_, _, rfl, R, H⟩
    · replace H := H.2 hc
      refine y_next (xst_of (i := (.ifCond .ne 6)) (len := 3) rfl rfl (xt_if_ne (t := 14) rfl hc)) ?_
      exact H _ _ R e0 e1 e2 ok_l1
  · replace H := H.2 hc
    refine y_next (xst_of (i := (.ifCond .ne 13)) (len := 3) rfl rfl (xt_if_ne (t := 14) rfl hc)) ?_
    exact H _ _ R e0 e1 e2 ok_l1
theorem l_3_14 {V : xV} {g : xG} {Y : xW} {l1 : Option xT} {l2 : Int32} {Q : Int32 → xW → Prop} (H : (l1 = none → (((fI Y (1, 0, 0) 2) = 0) → L_3_31 V g Y none l2 7 Q) ∧ (¬ ((fI Y (1, 0, 0) 2) = 0) → L_3_31 V g Y none l2 0 Q)) ∧ (∀ u1, l1 = some u1 → ∀ Y2, Y2 = uI Y (1, 0, 0) 3 (fI Y u1 1) → L_84_0 V g Y2 (23, 0, 0) (xsub u1 0) (fun Y3 => Q 0 Y3))) : L_3_14 V g Y l1 l2 Q := by
  intro h lv R e0 e1 e2 ok_l1
  refine y_next (pc' := 15) (xst_of (i := (.aload_n 1)) (len := 1) rfl rfl (x_aloadV (rv_V g l1) e1)) ?_
  rcases l1 with _ | u1
  · replace H := H.1 rfl
    refine y_next (pc' := 18) (xst_of (i := (.ifnonnull 17)) (len := 3) rfl rfl rfl) ?_
    refine y_next (pc' := 19) (xst_of (i := (.aload_n 0)) (len := 1) rfl rfl (x_aloadV (xisV_r _) e0)) ?_
    refine z_gI (t := (1, 0, 0)) (k := 2) rfl rfl rfl R (rc_1 R) ?_
    by_cases hc : (fI Y (1, 0, 0) 2) = 0
    · replace H := H.1 hc
      refine y_next (xst_of (i := (.ifCond .eq 7)) (len := 3) rfl rfl (xt_if_eq (t := 29) rfl hc)) ?_
      refine y_next (pc' := 31) (xst_of (i := (.bipush 7)) (len := 2) rfl rfl (x_bip (v := 7) (by decide))) ?_
      exact H _ _ R e0 e1 e2 ok_n
    · replace H := H.2 hc
      refine y_next (pc' := 25) (xst_of (i := (.ifCond .eq 7)) (len := 3) rfl rfl (xf_if_eq (t := 29) rfl hc)) ?_
      refine y_next (pc' := 26) (xst_of (i := (.iconst 0)) (len := 1) rfl rfl (x_ico (v := 0) (by decide))) ?_
      refine y_next (pc' := 31) (xst_of (i := (.goto 5)) (len := 3) rfl rfl rfl) ?_
      exact H _ _ R e0 e1 e2 ok_n
  · replace H := H.2 u1 rfl
    have ok_u1 := ok_l1 u1 rfl
    refine y_next (pc' := 32) (xst_of (i := (.ifnonnull 17)) (len := 3) rfl rfl rfl) ?_
    refine y_next (pc' := 33) (xst_of (i := (.aload_n 0)) (len := 1) rfl rfl (x_aloadV (xisV_r _) e0)) ?_
    refine y_next (pc' := 34) (xst_of (i := (.aload_n 1)) (len := 1) rfl rfl (x_aloadV (xisV_r _) e1)) ?_
    refine z_gI (t := u1) (k := 1) rfl rfl rfl R ok_u1 ?_
    refine z_pI (t := (1, 0, 0)) (k := 3) rfl rfl rfl rfl rfl R (rc_1 R) (fun h Y2 hY R => ?_)
    replace H := H Y2 hY
    clear hY
    refine y_next (pc' := 41) (xst_of (i := (.aload_n 0)) (len := 1) rfl rfl (x_aloadV (xisV_r _) e0)) ?_
    refine z_gO (t := (1, 0, 0)) (k := 0) rfl rfl rfl R (rc_1 R) ?_
    refine y_next (pc' := 45) (xst_of (i := (.aload_n 1)) (len := 1) rfl rfl (x_aloadV (xisV_r _) e1)) ?_
    refine z_gO (t := u1) (k := 0) rfl rfl rfl R ok_u1 ?_
    refine z_cN (k := 84) (i := (.invokevirtual 56)) (as := [.ref (g.2 (23, 0, 0) 0), .ref (g.2 (xsub u1 0) 0)]) (rest := []) rfl rfl (x_callv rfl rfl (rc_ob R (rc_sb R (rc_1 R) (k := 0) rfl rfl) rfl) rfl rfl) (H _ _ R rfl rfl (rc_sb R (rc_1 R) (k := 0) rfl rfl) (rc_sb R ok_u1 (k := 0) rfl rfl)) (fun h Y3 R H => ?_)
    refine y_next (pc' := 52) (xst_of (i := (.iconst 0)) (len := 1) rfl rfl (x_ico (v := 0) (by decide))) ?_
    exact y_ret (xst_of (i := .ireturn) (len := 1) rfl rfl rfl) ⟨_, _, rfl, R, H⟩
theorem l_3_31 {V : xV} {g : xG} {Y : xW} {l1 : Option xT} {l2 : Int32} {s0 : Int32} {Q : Int32 → xW → Prop} (H : Q s0 Y) : L_3_31 V g Y l1 l2 s0 Q := by
  intro h lv R e0 e1 e2 ok_l1
  exact y_ret (xst_of (i := .ireturn) (len := 1) rfl rfl rfl) ⟨_, _, rfl, R, H⟩
theorem l_4_0 {V : xV} {g : xG} {Y : xW} {l0 : Option xT} {Q : Int32 → xW → Prop} (H : (l0 = none → L_4_25 V g Y none Q) ∧ (∀ u1, l0 = some u1 → (((fI Y u1 1) = 0) → L_86_0 V g Y (xsub u1 0) (fun x3 Y2 => ((x3 = 0) → L_4_25 V g Y2 (some u1) Q) ∧ (¬ (x3 = 0) → L_4_26 V g Y2 (some u1) 1 Q))) ∧ (¬ ((fI Y u1 1) = 0) → L_4_25 V g Y (some u1) Q))) : L_4_0 V g Y l0 Q := by
  intro h lv R e0 ok_l0
  refine y_next (pc' := 1) (xst_of (i := (.aload_n 0)) (len := 1) rfl rfl (x_aloadV (rv_V g l0) e0)) ?_
  rcases l0 with _ | u1
  · replace H := H.1 rfl
    refine y_next (pc' := 25) (xst_of (i := (.ifnull 24)) (len := 3) rfl rfl rfl) ?_
    exact H _ _ R e0 ok_n
  · replace H := H.2 u1 rfl
    have ok_u1 := ok_l0 u1 rfl
    refine y_next (pc' := 4) (xst_of (i := (.ifnull 24)) (len := 3) rfl rfl rfl) ?_
    refine y_next (pc' := 5) (xst_of (i := (.aload_n 0)) (len := 1) rfl rfl (x_aloadV (xisV_r _) e0)) ?_
    refine z_gI (t := u1) (k := 1) rfl rfl rfl R ok_u1 ?_
    by_cases hc : (fI Y u1 1) = 0
    · replace H := H.1 hc
      refine y_next (pc' := 11) (xst_of (i := (.ifCond .ne 17)) (len := 3) rfl rfl (xf_if_ne (t := 25) rfl (fun z => z hc))) ?_
      refine y_next (pc' := 12) (xst_of (i := (.aload_n 0)) (len := 1) rfl rfl (x_aloadV (xisV_r _) e0)) ?_
      refine z_gO (t := u1) (k := 0) rfl rfl rfl R ok_u1 ?_
      refine z_cI (k := 86) (i := (.invokevirtual 60)) (as := [.ref (g.2 (xsub u1 0) 0)]) (rest := []) rfl rfl (x_callv rfl rfl (rc_ob R (rc_sb R ok_u1 (k := 0) rfl rfl) rfl) rfl rfl) (H _ _ R rfl (rc_sb R ok_u1 (k := 0) rfl rfl)) (fun x3 h Y2 R H => ?_)
      by_cases hc : x3 = 0
      · replace H := H.1 hc
        refine y_next (xst_of (i := (.ifCond .eq 7)) (len := 3) rfl rfl (xt_if_eq (t := 25) rfl hc)) ?_
        exact H _ _ R e0 (ok_s ok_u1)
      · replace H := H.2 hc
        refine y_next (pc' := 21) (xst_of (i := (.ifCond .eq 7)) (len := 3) rfl rfl (xf_if_eq (t := 25) rfl hc)) ?_
        refine y_next (pc' := 22) (xst_of (i := (.iconst 1)) (len := 1) rfl rfl (x_ico (v := 1) (by decide))) ?_
        refine y_next (pc' := 26) (xst_of (i := (.goto 4)) (len := 3) rfl rfl rfl) ?_
        exact H _ _ R e0 (ok_s ok_u1)
    · replace H := H.2 hc
      refine y_next (xst_of (i := (.ifCond .ne 17)) (len := 3) rfl rfl (xt_if_ne (t := 25) rfl hc)) ?_
      exact H _ _ R e0 (ok_s ok_u1)
theorem l_4_25 {V : xV} {g : xG} {Y : xW} {l0 : Option xT} {Q : Int32 → xW → Prop} (H : L_4_26 V g Y l0 0 Q) : L_4_25 V g Y l0 Q := by
  intro h lv R e0 ok_l0
  refine y_next (pc' := 26) (xst_of (i := (.iconst 0)) (len := 1) rfl rfl (x_ico (v := 0) (by decide))) ?_
  exact H _ _ R e0 ok_l0
theorem l_4_26 {V : xV} {g : xG} {Y : xW} {l0 : Option xT} {s0 : Int32} {Q : Int32 → xW → Prop} (H : (s0 = 0 ∨ s0 = 1) ∧ Q s0 Y) : L_4_26 V g Y l0 s0 Q := by
  intro h lv R e0 ok_l0
  exact y_ret (xst_of (i := .ireturn) (len := 1) rfl rfl (x_zret rfl H.1)) ⟨_, _, rfl, R, H.2⟩
theorem l_5_0 {V : xV} {g : xG} {Y : xW} {l1 : xT} {l2 : Int32} {Q : Int32 → xW → Prop} (H : ((0 : Int32) = 0 ∨ (0 : Int32) = 1) ∧ ∀ Y1, Y1 = uI Y (1, 0, 0) 2 0 → L_43_0 V g Y1 l1 l2 (fun x3 Y2 => L_6_0 V g Y2 x3 (fun x5 Y4 => ((x5 = 0 → L_79_0 V g Y4 (23, 0, 0) (fI Y4 (1, 0, 0) 5) (fun x7 Y6 => ((x7 = 0) → L_5_135 V g Y6 l1 l2 x5 2 Q) ∧ (¬ (x7 = 0) → L_5_135 V g Y6 l1 l2 x5 0 Q))) ∧ (x5 = 1 → L_5_248 V g Y4 l1 l2 x5 Q) ∧ (x5 = 2 → L_5_248 V g Y4 l1 l2 x5 Q) ∧ (x5 = 3 → L_5_248 V g Y4 l1 l2 x5 Q) ∧ (x5 = 4 → L_5_248 V g Y4 l1 l2 x5 Q) ∧ (x5 = 5 → L_5_248 V g Y4 l1 l2 x5 Q) ∧ (x5 = 6 → L_5_248 V g Y4 l1 l2 x5 Q) ∧ (x5 = 7 → L_5_248 V g Y4 l1 l2 x5 Q) ∧ (x5 = 8 → L_5_248 V g Y4 l1 l2 x5 Q) ∧ (x5 = 9 → L_5_248 V g Y4 l1 l2 x5 Q) ∧ (x5 = 10 → L_5_248 V g Y4 l1 l2 x5 Q) ∧ (x5 = 11 → L_5_248 V g Y4 l1 l2 x5 Q) ∧ (x5 = 12 → L_5_248 V g Y4 l1 l2 x5 Q) ∧ (x5 = 13 → L_5_248 V g Y4 l1 l2 x5 Q) ∧ (x5 = 14 → L_5_248 V g Y4 l1 l2 x5 Q) ∧ (x5 = 15 → L_19_0 V g Y4 l1 (fI Y4 (1, 0, 0) 7) (23, 0, 0) (fun x9 Y8 => Q x9 Y8)) ∧ (x5 = 16 → L_79_0 V g Y4 (23, 0, 0) (fI Y4 (1, 0, 0) 4) (fun x11 Y10 => ((x11 = 0) → L_5_187 V g Y10 l1 l2 x5 Q) ∧ (¬ (x11 = 0) → L_79_0 V g Y10 (23, 0, 0) (fI Y10 (1, 0, 0) 5) (fun x13 Y12 => ((x13 = 0) → L_5_187 V g Y12 l1 l2 x5 Q) ∧ (¬ (x13 = 0) → L_21_0 V g Y12 l1 l2 (fun x15 Y14 => L_5_188 V g Y14 l1 l2 x5 x15 Q)))))) ∧ (x5 = 17 → L_79_0 V g Y4 (23, 0, 0) (fI Y4 (1, 0, 0) 4) (fun x17 Y16 => ((x17 = 0) → L_5_226 V g Y16 l1 l2 x5 Q) ∧ (¬ (x17 = 0) → L_79_0 V g Y16 (23, 0, 0) (fI Y16 (1, 0, 0) 5) (fun x19 Y18 => ((x19 = 0) → L_5_226 V g Y18 l1 l2 x5 Q) ∧ (¬ (x19 = 0) → L_22_0 V g Y18 l1 l2 (fun x21 Y20 => L_5_227 V g Y20 l1 l2 x5 x21 Q)))))) ∧ (x5 = 18 → L_23_0 V g Y4 l1 l2 (fun x23 Y22 => Q x23 Y22)) ∧ (x5 = 19 → L_24_0 V g Y4 l1 l2 (fun x25 Y24 => Q x25 Y24)) ∧ (x5 = 20 → L_26_0 V g Y4 l1 (fun x27 Y26 => Q x27 Y26))) ∧ ((Int32.toInt x5 < 0 ∨ 20 < Int32.toInt x5) → L_5_248 V g Y4 l1 l2 x5 Q)))) : L_5_0 V g Y l1 l2 Q := by
  intro h lv R e0 e1 e2 ok_l1
  refine y_next (pc' := 1) (xst_of (i := (.aload_n 0)) (len := 1) rfl rfl (x_aloadV (xisV_r _) e0)) ?_
  refine y_next (pc' := 2) (xst_of (i := (.iconst 0)) (len := 1) rfl rfl (x_ico (v := 0) (by decide))) ?_
  have hz := H.1
  replace H := H.2
  refine z_pI (t := (1, 0, 0)) (k := 2) rfl rfl rfl (xfit_z hz) rfl R (rc_1 R) (fun h Y1 hY R => ?_)
  replace H := H Y1 hY
  clear hY
  refine y_next (pc' := 6) (xst_of (i := (.aload_n 0)) (len := 1) rfl rfl (x_aloadV (xisV_r _) e0)) ?_
  refine y_next (pc' := 7) (xst_of (i := (.aload_n 1)) (len := 1) rfl rfl (x_aloadV (xisV_r _) e1)) ?_
  refine y_next (pc' := 8) (xst_of (i := (.iload_n 2)) (len := 1) rfl rfl (x_ilo e2)) ?_
  refine z_cI (k := 43) (i := (.invokevirtual 64)) (as := [.ref (g.2 l1 0), .int l2]) (rest := [.ref (g.2 (1, 0, 0) 0)]) rfl rfl (x_callv rfl rfl (rc_ob R ok_l1 rfl) rfl rfl) (H _ _ R rfl rfl ok_l1) (fun x3 h Y2 R H => ?_)
  refine z_cI (k := 6) (i := (.invokevirtual 68)) (as := [.ref (g.2 (1, 0, 0) 0), .int x3]) (rest := []) rfl rfl (x_callv rfl rfl (rc_ob R (rc_1 R) rfl) rfl rfl) (H _ _ R rfl rfl) (fun x5 h Y4 R H => ?_)
  refine z_is (i := (.istore_n 3)) (len := 1) (pc' := 15) (q := 3) rfl rfl rfl (by decide) (fun lv1 hlv => ?_)
  have e0 := xs1_A hlv e0 rfl rfl
  have e1 := xs1_A hlv e1 rfl rfl
  have e2 := xs1_B hlv e2 rfl rfl
  have e3 := xs1_N hlv
  clear hlv
  refine y_next (pc' := 16) (xst_of (i := (.iload_n 3)) (len := 1) rfl rfl (x_ilo e3)) ?_
  by_cases hx : Int32.toInt x5 < 0 ∨ 20 < Int32.toInt x5
  · replace H := H.2 hx
    refine y_next (xst_of (i := (.tableswitch 232 0 20 #[100, 232, 232, 232, 232, 232, 232, 232, 232, 232, 232, 232, 232, 232, 232, 120, 134, 173, 212, 219, 226])) (len := 100) rfl rfl (x_sw_out (t := 248) hx rfl)) ?_
    exact H _ _ R e0 e1 e2 e3 ok_l1
  · replace H := H.1
    have hy : Int32.toInt x5 = 0 ∨ Int32.toInt x5 = 1 ∨ Int32.toInt x5 = 2 ∨ Int32.toInt x5 = 3 ∨ Int32.toInt x5 = 4 ∨ Int32.toInt x5 = 5 ∨ Int32.toInt x5 = 6 ∨ Int32.toInt x5 = 7 ∨ Int32.toInt x5 = 8 ∨ Int32.toInt x5 = 9 ∨ Int32.toInt x5 = 10 ∨ Int32.toInt x5 = 11 ∨ Int32.toInt x5 = 12 ∨ Int32.toInt x5 = 13 ∨ Int32.toInt x5 = 14 ∨ Int32.toInt x5 = 15 ∨ Int32.toInt x5 = 16 ∨ Int32.toInt x5 = 17 ∨ Int32.toInt x5 = 18 ∨ Int32.toInt x5 = 19 ∨ Int32.toInt x5 = 20 := by omega
    rcases hy with hy | hy | hy | hy | hy | hy | hy | hy | hy | hy | hy | hy | hy | hy | hy | hy | hy | hy | hy | hy | hy
    · replace H := H.1
      have hz : x5 = 0 := Int32.toInt_inj.mp (hy.trans rfl)
      replace H := H hz
      refine y_next (xst_of (i := (.tableswitch 232 0 20 #[100, 232, 232, 232, 232, 232, 232, 232, 232, 232, 232, 232, 232, 232, 232, 120, 134, 173, 212, 219, 226])) (len := 100) rfl rfl (x_sw_in (t := 116) hx (by rw [hy]; rfl) rfl)) ?_
      refine y_next (pc' := 117) (xst_of (i := (.aload_n 0)) (len := 1) rfl rfl (x_aloadV (xisV_r _) e0)) ?_
      refine z_gO (t := (1, 0, 0)) (k := 0) rfl rfl rfl R (rc_1 R) ?_
      refine y_next (pc' := 121) (xst_of (i := (.aload_n 0)) (len := 1) rfl rfl (x_aloadV (xisV_r _) e0)) ?_
      refine z_gI (t := (1, 0, 0)) (k := 5) rfl rfl rfl R (rc_1 R) ?_
      refine z_cI (k := 79) (i := (.invokevirtual 74)) (as := [.ref (g.2 (23, 0, 0) 0), .int (fI Y4 (1, 0, 0) 5)]) (rest := []) rfl rfl (x_callv rfl rfl (rc_ob R (rc_sb R (rc_1 R) (k := 0) rfl rfl) rfl) rfl rfl) (H _ _ R rfl rfl (rc_sb R (rc_1 R) (k := 0) rfl rfl)) (fun x7 h Y6 R H => ?_)
      by_cases hc : x7 = 0
      · replace H := H.1 hc
        refine y_next (xst_of (i := (.ifCond .eq 7)) (len := 3) rfl rfl (xt_if_eq (t := 134) rfl hc)) ?_
        refine y_next (pc' := 135) (xst_of (i := (.iconst 2)) (len := 1) rfl rfl (x_ico (v := 2) (by decide))) ?_
        exact H _ _ R e0 e1 e2 e3 ok_l1
      · replace H := H.2 hc
        refine y_next (pc' := 130) (xst_of (i := (.ifCond .eq 7)) (len := 3) rfl rfl (xf_if_eq (t := 134) rfl hc)) ?_
        refine y_next (pc' := 131) (xst_of (i := (.iconst 0)) (len := 1) rfl rfl (x_ico (v := 0) (by decide))) ?_
        refine y_next (pc' := 135) (xst_of (i := (.goto 4)) (len := 3) rfl rfl rfl) ?_
        exact H _ _ R e0 e1 e2 e3 ok_l1
    · replace H := H.2.1
      have hz : x5 = 1 := Int32.toInt_inj.mp (hy.trans rfl)
      replace H := H hz
      refine y_next (xst_of (i := (.tableswitch 232 0 20 #[100, 232, 232, 232, 232, 232, 232, 232, 232, 232, 232, 232, 232, 232, 232, 120, 134, 173, 212, 219, 226])) (len := 100) rfl rfl (x_sw_in (t := 248) hx (by rw [hy]; rfl) rfl)) ?_
      exact H _ _ R e0 e1 e2 e3 ok_l1
    · replace H := H.2.2.1
      have hz : x5 = 2 := Int32.toInt_inj.mp (hy.trans rfl)
      replace H := H hz
      refine y_next (xst_of (i := (.tableswitch 232 0 20 #[100, 232, 232, 232, 232, 232, 232, 232, 232, 232, 232, 232, 232, 232, 232, 120, 134, 173, 212, 219, 226])) (len := 100) rfl rfl (x_sw_in (t := 248) hx (by rw [hy]; rfl) rfl)) ?_
      exact H _ _ R e0 e1 e2 e3 ok_l1
    · replace H := H.2.2.2.1
      have hz : x5 = 3 := Int32.toInt_inj.mp (hy.trans rfl)
      replace H := H hz
      refine y_next (xst_of (i := (.tableswitch 232 0 20 #[100, 232, 232, 232, 232, 232, 232, 232, 232, 232, 232, 232, 232, 232, 232, 120, 134, 173, 212, 219, 226])) (len := 100) rfl rfl (x_sw_in (t := 248) hx (by rw [hy]; rfl) rfl)) ?_
      exact H _ _ R e0 e1 e2 e3 ok_l1
    · replace H := H.2.2.2.2.1
      have hz : x5 = 4 := Int32.toInt_inj.mp (hy.trans rfl)
      replace H := H hz
      refine y_next (xst_of (i := (.tableswitch 232 0 20 #[100, 232, 232, 232, 232, 232, 232, 232, 232, 232, 232, 232, 232, 232, 232, 120, 134, 173, 212, 219, 226])) (len := 100) rfl rfl (x_sw_in (t := 248) hx (by rw [hy]; rfl) rfl)) ?_
      exact H _ _ R e0 e1 e2 e3 ok_l1
    · replace H := H.2.2.2.2.2.1
      have hz : x5 = 5 := Int32.toInt_inj.mp (hy.trans rfl)
      replace H := H hz
      refine y_next (xst_of (i := (.tableswitch 232 0 20 #[100, 232, 232, 232, 232, 232, 232, 232, 232, 232, 232, 232, 232, 232, 232, 120, 134, 173, 212, 219, 226])) (len := 100) rfl rfl (x_sw_in (t := 248) hx (by rw [hy]; rfl) rfl)) ?_
      exact H _ _ R e0 e1 e2 e3 ok_l1
    · replace H := H.2.2.2.2.2.2.1
      have hz : x5 = 6 := Int32.toInt_inj.mp (hy.trans rfl)
      replace H := H hz
      refine y_next (xst_of (i := (.tableswitch 232 0 20 #[100, 232, 232, 232, 232, 232, 232, 232, 232, 232, 232, 232, 232, 232, 232, 120, 134, 173, 212, 219, 226])) (len := 100) rfl rfl (x_sw_in (t := 248) hx (by rw [hy]; rfl) rfl)) ?_
      exact H _ _ R e0 e1 e2 e3 ok_l1
    · replace H := H.2.2.2.2.2.2.2.1
      have hz : x5 = 7 := Int32.toInt_inj.mp (hy.trans rfl)
      replace H := H hz
      refine y_next (xst_of (i := (.tableswitch 232 0 20 #[100, 232, 232, 232, 232, 232, 232, 232, 232, 232, 232, 232, 232, 232, 232, 120, 134, 173, 212, 219, 226])) (len := 100) rfl rfl (x_sw_in (t := 248) hx (by rw [hy]; rfl) rfl)) ?_
      exact H _ _ R e0 e1 e2 e3 ok_l1
    · replace H := H.2.2.2.2.2.2.2.2.1
      have hz : x5 = 8 := Int32.toInt_inj.mp (hy.trans rfl)
      replace H := H hz
      refine y_next (xst_of (i := (.tableswitch 232 0 20 #[100, 232, 232, 232, 232, 232, 232, 232, 232, 232, 232, 232, 232, 232, 232, 120, 134, 173, 212, 219, 226])) (len := 100) rfl rfl (x_sw_in (t := 248) hx (by rw [hy]; rfl) rfl)) ?_
      exact H _ _ R e0 e1 e2 e3 ok_l1
    · replace H := H.2.2.2.2.2.2.2.2.2.1
      have hz : x5 = 9 := Int32.toInt_inj.mp (hy.trans rfl)
      replace H := H hz
      refine y_next (xst_of (i := (.tableswitch 232 0 20 #[100, 232, 232, 232, 232, 232, 232, 232, 232, 232, 232, 232, 232, 232, 232, 120, 134, 173, 212, 219, 226])) (len := 100) rfl rfl (x_sw_in (t := 248) hx (by rw [hy]; rfl) rfl)) ?_
      exact H _ _ R e0 e1 e2 e3 ok_l1
    · replace H := H.2.2.2.2.2.2.2.2.2.2.1
      have hz : x5 = 10 := Int32.toInt_inj.mp (hy.trans rfl)
      replace H := H hz
      refine y_next (xst_of (i := (.tableswitch 232 0 20 #[100, 232, 232, 232, 232, 232, 232, 232, 232, 232, 232, 232, 232, 232, 232, 120, 134, 173, 212, 219, 226])) (len := 100) rfl rfl (x_sw_in (t := 248) hx (by rw [hy]; rfl) rfl)) ?_
      exact H _ _ R e0 e1 e2 e3 ok_l1
    · replace H := H.2.2.2.2.2.2.2.2.2.2.2.1
      have hz : x5 = 11 := Int32.toInt_inj.mp (hy.trans rfl)
      replace H := H hz
      refine y_next (xst_of (i := (.tableswitch 232 0 20 #[100, 232, 232, 232, 232, 232, 232, 232, 232, 232, 232, 232, 232, 232, 232, 120, 134, 173, 212, 219, 226])) (len := 100) rfl rfl (x_sw_in (t := 248) hx (by rw [hy]; rfl) rfl)) ?_
      exact H _ _ R e0 e1 e2 e3 ok_l1
    · replace H := H.2.2.2.2.2.2.2.2.2.2.2.2.1
      have hz : x5 = 12 := Int32.toInt_inj.mp (hy.trans rfl)
      replace H := H hz
      refine y_next (xst_of (i := (.tableswitch 232 0 20 #[100, 232, 232, 232, 232, 232, 232, 232, 232, 232, 232, 232, 232, 232, 232, 120, 134, 173, 212, 219, 226])) (len := 100) rfl rfl (x_sw_in (t := 248) hx (by rw [hy]; rfl) rfl)) ?_
      exact H _ _ R e0 e1 e2 e3 ok_l1
    · replace H := H.2.2.2.2.2.2.2.2.2.2.2.2.2.1
      have hz : x5 = 13 := Int32.toInt_inj.mp (hy.trans rfl)
      replace H := H hz
      refine y_next (xst_of (i := (.tableswitch 232 0 20 #[100, 232, 232, 232, 232, 232, 232, 232, 232, 232, 232, 232, 232, 232, 232, 120, 134, 173, 212, 219, 226])) (len := 100) rfl rfl (x_sw_in (t := 248) hx (by rw [hy]; rfl) rfl)) ?_
      exact H _ _ R e0 e1 e2 e3 ok_l1
    · replace H := H.2.2.2.2.2.2.2.2.2.2.2.2.2.2.1
      have hz : x5 = 14 := Int32.toInt_inj.mp (hy.trans rfl)
      replace H := H hz
      refine y_next (xst_of (i := (.tableswitch 232 0 20 #[100, 232, 232, 232, 232, 232, 232, 232, 232, 232, 232, 232, 232, 232, 232, 120, 134, 173, 212, 219, 226])) (len := 100) rfl rfl (x_sw_in (t := 248) hx (by rw [hy]; rfl) rfl)) ?_
      exact H _ _ R e0 e1 e2 e3 ok_l1
    · replace H := H.2.2.2.2.2.2.2.2.2.2.2.2.2.2.2.1
      have hz : x5 = 15 := Int32.toInt_inj.mp (hy.trans rfl)
      replace H := H hz
      refine y_next (xst_of (i := (.tableswitch 232 0 20 #[100, 232, 232, 232, 232, 232, 232, 232, 232, 232, 232, 232, 232, 232, 232, 120, 134, 173, 212, 219, 226])) (len := 100) rfl rfl (x_sw_in (t := 136) hx (by rw [hy]; rfl) rfl)) ?_
      refine y_next (pc' := 137) (xst_of (i := (.aload_n 0)) (len := 1) rfl rfl (x_aloadV (xisV_r _) e0)) ?_
      refine y_next (pc' := 138) (xst_of (i := (.aload_n 1)) (len := 1) rfl rfl (x_aloadV (xisV_r _) e1)) ?_
      refine y_next (pc' := 139) (xst_of (i := (.aload_n 0)) (len := 1) rfl rfl (x_aloadV (xisV_r _) e0)) ?_
      refine z_gI (t := (1, 0, 0)) (k := 7) rfl rfl rfl R (rc_1 R) ?_
      refine y_next (pc' := 143) (xst_of (i := (.aload_n 0)) (len := 1) rfl rfl (x_aloadV (xisV_r _) e0)) ?_
      refine z_gO (t := (1, 0, 0)) (k := 0) rfl rfl rfl R (rc_1 R) ?_
      refine z_cI (k := 19) (i := (.invokevirtual 81)) (as := [.ref (g.2 (1, 0, 0) 0), .ref (g.2 l1 0), .int (fI Y4 (1, 0, 0) 7), .ref (g.2 (23, 0, 0) 0)]) (rest := []) rfl rfl (x_callv rfl rfl (rc_ob R (rc_1 R) rfl) rfl rfl) (H _ _ R rfl rfl rfl rfl ok_l1 (rc_sb R (rc_1 R) (k := 0) rfl rfl)) (fun x9 h Y8 R H => ?_)
      exact y_ret (xst_of (i := .ireturn) (len := 1) rfl rfl rfl) ⟨_, _, rfl, R, H⟩
    · replace H := H.2.2.2.2.2.2.2.2.2.2.2.2.2.2.2.2.1
      have hz : x5 = 16 := Int32.toInt_inj.mp (hy.trans rfl)
      replace H := H hz
      refine y_next (xst_of (i := (.tableswitch 232 0 20 #[100, 232, 232, 232, 232, 232, 232, 232, 232, 232, 232, 232, 232, 232, 232, 120, 134, 173, 212, 219, 226])) (len := 100) rfl rfl (x_sw_in (t := 150) hx (by rw [hy]; rfl) rfl)) ?_
      refine y_next (pc' := 151) (xst_of (i := (.aload_n 0)) (len := 1) rfl rfl (x_aloadV (xisV_r _) e0)) ?_
      refine z_gO (t := (1, 0, 0)) (k := 0) rfl rfl rfl R (rc_1 R) ?_
      refine y_next (pc' := 155) (xst_of (i := (.aload_n 0)) (len := 1) rfl rfl (x_aloadV (xisV_r _) e0)) ?_
      refine z_gI (t := (1, 0, 0)) (k := 4) rfl rfl rfl R (rc_1 R) ?_
      refine z_cI (k := 79) (i := (.invokevirtual 74)) (as := [.ref (g.2 (23, 0, 0) 0), .int (fI Y4 (1, 0, 0) 4)]) (rest := []) rfl rfl (x_callv rfl rfl (rc_ob R (rc_sb R (rc_1 R) (k := 0) rfl rfl) rfl) rfl rfl) (H _ _ R rfl rfl (rc_sb R (rc_1 R) (k := 0) rfl rfl)) (fun x11 h Y10 R H => ?_)
      by_cases hc : x11 = 0
      · replace H := H.1 hc
        refine y_next (xst_of (i := (.ifCond .eq 26)) (len := 3) rfl rfl (xt_if_eq (t := 187) rfl hc)) ?_
        exact H _ _ R e0 e1 e2 e3 ok_l1
      · replace H := H.2 hc
        refine y_next (pc' := 164) (xst_of (i := (.ifCond .eq 26)) (len := 3) rfl rfl (xf_if_eq (t := 187) rfl hc)) ?_
        refine y_next (pc' := 165) (xst_of (i := (.aload_n 0)) (len := 1) rfl rfl (x_aloadV (xisV_r _) e0)) ?_
        refine z_gO (t := (1, 0, 0)) (k := 0) rfl rfl rfl R (rc_1 R) ?_
        refine y_next (pc' := 169) (xst_of (i := (.aload_n 0)) (len := 1) rfl rfl (x_aloadV (xisV_r _) e0)) ?_
        refine z_gI (t := (1, 0, 0)) (k := 5) rfl rfl rfl R (rc_1 R) ?_
        refine z_cI (k := 79) (i := (.invokevirtual 74)) (as := [.ref (g.2 (23, 0, 0) 0), .int (fI Y10 (1, 0, 0) 5)]) (rest := []) rfl rfl (x_callv rfl rfl (rc_ob R (rc_sb R (rc_1 R) (k := 0) rfl rfl) rfl) rfl rfl) (H _ _ R rfl rfl (rc_sb R (rc_1 R) (k := 0) rfl rfl)) (fun x13 h Y12 R H => ?_)
        by_cases hc : x13 = 0
        · replace H := H.1 hc
          refine y_next (xst_of (i := (.ifCond .eq 12)) (len := 3) rfl rfl (xt_if_eq (t := 187) rfl hc)) ?_
          exact H _ _ R e0 e1 e2 e3 ok_l1
        · replace H := H.2 hc
          refine y_next (pc' := 178) (xst_of (i := (.ifCond .eq 12)) (len := 3) rfl rfl (xf_if_eq (t := 187) rfl hc)) ?_
          refine y_next (pc' := 179) (xst_of (i := (.aload_n 0)) (len := 1) rfl rfl (x_aloadV (xisV_r _) e0)) ?_
          refine y_next (pc' := 180) (xst_of (i := (.aload_n 1)) (len := 1) rfl rfl (x_aloadV (xisV_r _) e1)) ?_
          refine y_next (pc' := 181) (xst_of (i := (.iload_n 2)) (len := 1) rfl rfl (x_ilo e2)) ?_
          refine z_cI (k := 21) (i := (.invokevirtual 88)) (as := [.ref (g.2 (1, 0, 0) 0), .ref (g.2 l1 0), .int l2]) (rest := []) rfl rfl (x_callv rfl rfl (rc_ob R (rc_1 R) rfl) rfl rfl) (H _ _ R rfl rfl rfl ok_l1) (fun x15 h Y14 R H => ?_)
          refine y_next (pc' := 188) (xst_of (i := (.goto 4)) (len := 3) rfl rfl rfl) ?_
          exact H _ _ R e0 e1 e2 e3 ok_l1
    · replace H := H.2.2.2.2.2.2.2.2.2.2.2.2.2.2.2.2.2.1
      have hz : x5 = 17 := Int32.toInt_inj.mp (hy.trans rfl)
      replace H := H hz
      refine y_next (xst_of (i := (.tableswitch 232 0 20 #[100, 232, 232, 232, 232, 232, 232, 232, 232, 232, 232, 232, 232, 232, 232, 120, 134, 173, 212, 219, 226])) (len := 100) rfl rfl (x_sw_in (t := 189) hx (by rw [hy]; rfl) rfl)) ?_
      refine y_next (pc' := 190) (xst_of (i := (.aload_n 0)) (len := 1) rfl rfl (x_aloadV (xisV_r _) e0)) ?_
      refine z_gO (t := (1, 0, 0)) (k := 0) rfl rfl rfl R (rc_1 R) ?_
      refine y_next (pc' := 194) (xst_of (i := (.aload_n 0)) (len := 1) rfl rfl (x_aloadV (xisV_r _) e0)) ?_
      refine z_gI (t := (1, 0, 0)) (k := 4) rfl rfl rfl R (rc_1 R) ?_
      refine z_cI (k := 79) (i := (.invokevirtual 74)) (as := [.ref (g.2 (23, 0, 0) 0), .int (fI Y4 (1, 0, 0) 4)]) (rest := []) rfl rfl (x_callv rfl rfl (rc_ob R (rc_sb R (rc_1 R) (k := 0) rfl rfl) rfl) rfl rfl) (H _ _ R rfl rfl (rc_sb R (rc_1 R) (k := 0) rfl rfl)) (fun x17 h Y16 R H => ?_)
      by_cases hc : x17 = 0
      · replace H := H.1 hc
        refine y_next (xst_of (i := (.ifCond .eq 26)) (len := 3) rfl rfl (xt_if_eq (t := 226) rfl hc)) ?_
        exact H _ _ R e0 e1 e2 e3 ok_l1
      · replace H := H.2 hc
        refine y_next (pc' := 203) (xst_of (i := (.ifCond .eq 26)) (len := 3) rfl rfl (xf_if_eq (t := 226) rfl hc)) ?_
        refine y_next (pc' := 204) (xst_of (i := (.aload_n 0)) (len := 1) rfl rfl (x_aloadV (xisV_r _) e0)) ?_
        refine z_gO (t := (1, 0, 0)) (k := 0) rfl rfl rfl R (rc_1 R) ?_
        refine y_next (pc' := 208) (xst_of (i := (.aload_n 0)) (len := 1) rfl rfl (x_aloadV (xisV_r _) e0)) ?_
        refine z_gI (t := (1, 0, 0)) (k := 5) rfl rfl rfl R (rc_1 R) ?_
        refine z_cI (k := 79) (i := (.invokevirtual 74)) (as := [.ref (g.2 (23, 0, 0) 0), .int (fI Y16 (1, 0, 0) 5)]) (rest := []) rfl rfl (x_callv rfl rfl (rc_ob R (rc_sb R (rc_1 R) (k := 0) rfl rfl) rfl) rfl rfl) (H _ _ R rfl rfl (rc_sb R (rc_1 R) (k := 0) rfl rfl)) (fun x19 h Y18 R H => ?_)
        by_cases hc : x19 = 0
        · replace H := H.1 hc
          refine y_next (xst_of (i := (.ifCond .eq 12)) (len := 3) rfl rfl (xt_if_eq (t := 226) rfl hc)) ?_
          exact H _ _ R e0 e1 e2 e3 ok_l1
        · replace H := H.2 hc
          refine y_next (pc' := 217) (xst_of (i := (.ifCond .eq 12)) (len := 3) rfl rfl (xf_if_eq (t := 226) rfl hc)) ?_
          refine y_next (pc' := 218) (xst_of (i := (.aload_n 0)) (len := 1) rfl rfl (x_aloadV (xisV_r _) e0)) ?_
          refine y_next (pc' := 219) (xst_of (i := (.aload_n 1)) (len := 1) rfl rfl (x_aloadV (xisV_r _) e1)) ?_
          refine y_next (pc' := 220) (xst_of (i := (.iload_n 2)) (len := 1) rfl rfl (x_ilo e2)) ?_
          refine z_cI (k := 22) (i := (.invokevirtual 91)) (as := [.ref (g.2 (1, 0, 0) 0), .ref (g.2 l1 0), .int l2]) (rest := []) rfl rfl (x_callv rfl rfl (rc_ob R (rc_1 R) rfl) rfl rfl) (H _ _ R rfl rfl rfl ok_l1) (fun x21 h Y20 R H => ?_)
          refine y_next (pc' := 227) (xst_of (i := (.goto 4)) (len := 3) rfl rfl rfl) ?_
          exact H _ _ R e0 e1 e2 e3 ok_l1
    · replace H := H.2.2.2.2.2.2.2.2.2.2.2.2.2.2.2.2.2.2.1
      have hz : x5 = 18 := Int32.toInt_inj.mp (hy.trans rfl)
      replace H := H hz
      refine y_next (xst_of (i := (.tableswitch 232 0 20 #[100, 232, 232, 232, 232, 232, 232, 232, 232, 232, 232, 232, 232, 232, 232, 120, 134, 173, 212, 219, 226])) (len := 100) rfl rfl (x_sw_in (t := 228) hx (by rw [hy]; rfl) rfl)) ?_
      refine y_next (pc' := 229) (xst_of (i := (.aload_n 0)) (len := 1) rfl rfl (x_aloadV (xisV_r _) e0)) ?_
      refine y_next (pc' := 230) (xst_of (i := (.aload_n 1)) (len := 1) rfl rfl (x_aloadV (xisV_r _) e1)) ?_
      refine y_next (pc' := 231) (xst_of (i := (.iload_n 2)) (len := 1) rfl rfl (x_ilo e2)) ?_
      refine z_cI (k := 23) (i := (.invokevirtual 94)) (as := [.ref (g.2 (1, 0, 0) 0), .ref (g.2 l1 0), .int l2]) (rest := []) rfl rfl (x_callv rfl rfl (rc_ob R (rc_1 R) rfl) rfl rfl) (H _ _ R rfl rfl rfl ok_l1) (fun x23 h Y22 R H => ?_)
      exact y_ret (xst_of (i := .ireturn) (len := 1) rfl rfl rfl) ⟨_, _, rfl, R, H⟩
    · replace H := H.2.2.2.2.2.2.2.2.2.2.2.2.2.2.2.2.2.2.2.1
      have hz : x5 = 19 := Int32.toInt_inj.mp (hy.trans rfl)
      replace H := H hz
      refine y_next (xst_of (i := (.tableswitch 232 0 20 #[100, 232, 232, 232, 232, 232, 232, 232, 232, 232, 232, 232, 232, 232, 232, 120, 134, 173, 212, 219, 226])) (len := 100) rfl rfl (x_sw_in (t := 235) hx (by rw [hy]; rfl) rfl)) ?_
      refine y_next (pc' := 236) (xst_of (i := (.aload_n 0)) (len := 1) rfl rfl (x_aloadV (xisV_r _) e0)) ?_
      refine y_next (pc' := 237) (xst_of (i := (.aload_n 1)) (len := 1) rfl rfl (x_aloadV (xisV_r _) e1)) ?_
      refine y_next (pc' := 238) (xst_of (i := (.iload_n 2)) (len := 1) rfl rfl (x_ilo e2)) ?_
      refine z_cI (k := 24) (i := (.invokevirtual 97)) (as := [.ref (g.2 (1, 0, 0) 0), .ref (g.2 l1 0), .int l2]) (rest := []) rfl rfl (x_callv rfl rfl (rc_ob R (rc_1 R) rfl) rfl rfl) (H _ _ R rfl rfl rfl ok_l1) (fun x25 h Y24 R H => ?_)
      exact y_ret (xst_of (i := .ireturn) (len := 1) rfl rfl rfl) ⟨_, _, rfl, R, H⟩
    · replace H := H.2.2.2.2.2.2.2.2.2.2.2.2.2.2.2.2.2.2.2.2
      have hz : x5 = 20 := Int32.toInt_inj.mp (hy.trans rfl)
      replace H := H hz
      refine y_next (xst_of (i := (.tableswitch 232 0 20 #[100, 232, 232, 232, 232, 232, 232, 232, 232, 232, 232, 232, 232, 232, 232, 120, 134, 173, 212, 219, 226])) (len := 100) rfl rfl (x_sw_in (t := 242) hx (by rw [hy]; rfl) rfl)) ?_
      refine y_next (pc' := 243) (xst_of (i := (.aload_n 0)) (len := 1) rfl rfl (x_aloadV (xisV_r _) e0)) ?_
      refine y_next (pc' := 244) (xst_of (i := (.aload_n 1)) (len := 1) rfl rfl (x_aloadV (xisV_r _) e1)) ?_
      refine z_cI (k := 26) (i := (.invokevirtual 100)) (as := [.ref (g.2 (1, 0, 0) 0), .ref (g.2 l1 0)]) (rest := []) rfl rfl (x_callv rfl rfl (rc_ob R (rc_1 R) rfl) rfl rfl) (H _ _ R rfl rfl ok_l1) (fun x27 h Y26 R H => ?_)
      exact y_ret (xst_of (i := .ireturn) (len := 1) rfl rfl rfl) ⟨_, _, rfl, R, H⟩
theorem l_5_135 {V : xV} {g : xG} {Y : xW} {l1 : xT} {l2 : Int32} {l3 : Int32} {s0 : Int32} {Q : Int32 → xW → Prop} (H : Q s0 Y) : L_5_135 V g Y l1 l2 l3 s0 Q := by
  intro h lv R e0 e1 e2 e3 ok_l1
  exact y_ret (xst_of (i := .ireturn) (len := 1) rfl rfl rfl) ⟨_, _, rfl, R, H⟩
theorem l_5_187 {V : xV} {g : xG} {Y : xW} {l1 : xT} {l2 : Int32} {l3 : Int32} {Q : Int32 → xW → Prop} (H : L_5_188 V g Y l1 l2 l3 2 Q) : L_5_187 V g Y l1 l2 l3 Q := by
  intro h lv R e0 e1 e2 e3 ok_l1
  refine y_next (pc' := 188) (xst_of (i := (.iconst 2)) (len := 1) rfl rfl (x_ico (v := 2) (by decide))) ?_
  exact H _ _ R e0 e1 e2 e3 ok_l1
theorem l_5_188 {V : xV} {g : xG} {Y : xW} {l1 : xT} {l2 : Int32} {l3 : Int32} {s0 : Int32} {Q : Int32 → xW → Prop} (H : Q s0 Y) : L_5_188 V g Y l1 l2 l3 s0 Q := by
  intro h lv R e0 e1 e2 e3 ok_l1
  exact y_ret (xst_of (i := .ireturn) (len := 1) rfl rfl rfl) ⟨_, _, rfl, R, H⟩
theorem l_5_226 {V : xV} {g : xG} {Y : xW} {l1 : xT} {l2 : Int32} {l3 : Int32} {Q : Int32 → xW → Prop} (H : L_5_227 V g Y l1 l2 l3 2 Q) : L_5_226 V g Y l1 l2 l3 Q := by
  intro h lv R e0 e1 e2 e3 ok_l1
  refine y_next (pc' := 227) (xst_of (i := (.iconst 2)) (len := 1) rfl rfl (x_ico (v := 2) (by decide))) ?_
  exact H _ _ R e0 e1 e2 e3 ok_l1
theorem l_5_227 {V : xV} {g : xG} {Y : xW} {l1 : xT} {l2 : Int32} {l3 : Int32} {s0 : Int32} {Q : Int32 → xW → Prop} (H : Q s0 Y) : L_5_227 V g Y l1 l2 l3 s0 Q := by
  intro h lv R e0 e1 e2 e3 ok_l1
  exact y_ret (xst_of (i := .ireturn) (len := 1) rfl rfl rfl) ⟨_, _, rfl, R, H⟩
theorem l_5_248 {V : xV} {g : xG} {Y : xW} {l1 : xT} {l2 : Int32} {l3 : Int32} {Q : Int32 → xW → Prop} (H : L_7_0 V g Y l3 (fI Y l1 0) (fun x2 Y1 => ((x2 = 0) → L_20_0 V g Y1 l1 l2 (fun x4 Y3 => L_5_275 V g Y3 l1 l2 l3 x2 x4 Q)) ∧ (¬ (x2 = 0) → L_5_275 V g Y1 l1 l2 l3 x2 x2 Q))) : L_5_248 V g Y l1 l2 l3 Q := by
  intro h lv R e0 e1 e2 e3 ok_l1
  refine y_next (pc' := 249) (xst_of (i := (.aload_n 0)) (len := 1) rfl rfl (x_aloadV (xisV_r _) e0)) ?_
  refine y_next (pc' := 250) (xst_of (i := (.iload_n 3)) (len := 1) rfl rfl (x_ilo e3)) ?_
  refine y_next (pc' := 251) (xst_of (i := (.aload_n 1)) (len := 1) rfl rfl (x_aloadV (xisV_r _) e1)) ?_
  refine z_gI (t := l1) (k := 0) rfl rfl rfl R ok_l1 ?_
  refine z_cI (k := 7) (i := (.invokevirtual 107)) (as := [.ref (g.2 (1, 0, 0) 0), .int l3, .int (fI Y l1 0)]) (rest := []) rfl rfl (x_callv rfl rfl (rc_ob R (rc_1 R) rfl) rfl rfl) (H _ _ R rfl rfl rfl) (fun x2 h Y1 R H => ?_)
  refine z_is (i := (.istore 4)) (len := 2) (pc' := 259) (q := 4) rfl rfl rfl (by decide) (fun lv1 hlv => ?_)
  have e0 := xs1_A hlv e0 rfl rfl
  have e1 := xs1_A hlv e1 rfl rfl
  have e2 := xs1_A hlv e2 rfl rfl
  have e3 := xs1_B hlv e3 rfl rfl
  have e4 := xs1_N hlv
  clear hlv
  refine y_next (pc' := 261) (xst_of (i := (.iload 4)) (len := 2) rfl rfl (x_ilo e4)) ?_
  by_cases hc : x2 = 0
  · replace H := H.1 hc
    refine y_next (pc' := 264) (xst_of (i := (.ifCond .ne 12)) (len := 3) rfl rfl (xf_if_ne (t := 273) rfl (fun z => z hc))) ?_
    refine y_next (pc' := 265) (xst_of (i := (.aload_n 0)) (len := 1) rfl rfl (x_aloadV (xisV_r _) e0)) ?_
    refine y_next (pc' := 266) (xst_of (i := (.aload_n 1)) (len := 1) rfl rfl (x_aloadV (xisV_r _) e1)) ?_
    refine y_next (pc' := 267) (xst_of (i := (.iload_n 2)) (len := 1) rfl rfl (x_ilo e2)) ?_
    refine z_cI (k := 20) (i := (.invokevirtual 111)) (as := [.ref (g.2 (1, 0, 0) 0), .ref (g.2 l1 0), .int l2]) (rest := []) rfl rfl (x_callv rfl rfl (rc_ob R (rc_1 R) rfl) rfl rfl) (H _ _ R rfl rfl rfl ok_l1) (fun x4 h Y3 R H => ?_)
    refine y_next (pc' := 275) (xst_of (i := (.goto 5)) (len := 3) rfl rfl rfl) ?_
    exact H _ _ R e0 e1 e2 e3 e4 ok_l1
  · replace H := H.2 hc
    refine y_next (xst_of (i := (.ifCond .ne 12)) (len := 3) rfl rfl (xt_if_ne (t := 273) rfl hc)) ?_
    refine y_next (pc' := 275) (xst_of (i := (.iload 4)) (len := 2) rfl rfl (x_ilo e4)) ?_
    exact H _ _ R e0 e1 e2 e3 e4 ok_l1
theorem l_5_275 {V : xV} {g : xG} {Y : xW} {l1 : xT} {l2 : Int32} {l3 : Int32} {l4 : Int32} {s0 : Int32} {Q : Int32 → xW → Prop} (H : Q s0 Y) : L_5_275 V g Y l1 l2 l3 l4 s0 Q := by
  intro h lv R e0 e1 e2 e3 e4 ok_l1
  exact y_ret (xst_of (i := .ireturn) (len := 1) rfl rfl rfl) ⟨_, _, rfl, R, H⟩
theorem l_6_0 {V : xV} {g : xG} {Y : xW} {l1 : Int32} {Q : Int32 → xW → Prop} (H : L_118_0 V g Y l1 (fun x2 Y1 => ∀ Y3, Y3 = uI Y1 (1, 0, 0) 4 x2 → L_119_0 V g Y3 l1 (fun x5 Y4 => ∀ Y6, Y6 = uI Y4 (1, 0, 0) 5 x5 → L_120_0 V g Y6 l1 (fun x8 Y7 => ∀ Y9, Y9 = uI Y7 (1, 0, 0) 6 x8 → L_121_0 V g Y9 l1 (fun x11 Y10 => ∀ Y12, Y12 = uI Y10 (1, 0, 0) 7 x11 → L_122_0 V g Y12 l1 (fun x14 Y13 => ∀ Y15, Y15 = uI Y13 (1, 0, 0) 8 x14 → L_117_0 V g Y15 l1 (fun x17 Y16 => Q x17 Y16))))))) : L_6_0 V g Y l1 Q := by
  intro h lv R e0 e1
  refine y_next (pc' := 1) (xst_of (i := (.aload_n 0)) (len := 1) rfl rfl (x_aloadV (xisV_r _) e0)) ?_
  refine y_next (pc' := 2) (xst_of (i := (.iload_n 1)) (len := 1) rfl rfl (x_ilo e1)) ?_
  refine z_cI (k := 118) (i := (.invokestatic 114)) (as := [.int l1]) (rest := [.ref (g.2 (1, 0, 0) 0)]) rfl rfl rfl (H _ _ R rfl) (fun x2 h Y1 R H => ?_)
  refine z_pI (t := (1, 0, 0)) (k := 4) rfl rfl rfl rfl rfl R (rc_1 R) (fun h Y3 hY R => ?_)
  replace H := H Y3 hY
  clear hY
  refine y_next (pc' := 9) (xst_of (i := (.aload_n 0)) (len := 1) rfl rfl (x_aloadV (xisV_r _) e0)) ?_
  refine y_next (pc' := 10) (xst_of (i := (.iload_n 1)) (len := 1) rfl rfl (x_ilo e1)) ?_
  refine z_cI (k := 119) (i := (.invokestatic 117)) (as := [.int l1]) (rest := [.ref (g.2 (1, 0, 0) 0)]) rfl rfl rfl (H _ _ R rfl) (fun x5 h Y4 R H => ?_)
  refine z_pI (t := (1, 0, 0)) (k := 5) rfl rfl rfl rfl rfl R (rc_1 R) (fun h Y6 hY R => ?_)
  replace H := H Y6 hY
  clear hY
  refine y_next (pc' := 17) (xst_of (i := (.aload_n 0)) (len := 1) rfl rfl (x_aloadV (xisV_r _) e0)) ?_
  refine y_next (pc' := 18) (xst_of (i := (.iload_n 1)) (len := 1) rfl rfl (x_ilo e1)) ?_
  refine z_cI (k := 120) (i := (.invokestatic 120)) (as := [.int l1]) (rest := [.ref (g.2 (1, 0, 0) 0)]) rfl rfl rfl (H _ _ R rfl) (fun x8 h Y7 R H => ?_)
  refine z_pI (t := (1, 0, 0)) (k := 6) rfl rfl rfl rfl rfl R (rc_1 R) (fun h Y9 hY R => ?_)
  replace H := H Y9 hY
  clear hY
  refine y_next (pc' := 25) (xst_of (i := (.aload_n 0)) (len := 1) rfl rfl (x_aloadV (xisV_r _) e0)) ?_
  refine y_next (pc' := 26) (xst_of (i := (.iload_n 1)) (len := 1) rfl rfl (x_ilo e1)) ?_
  refine z_cI (k := 121) (i := (.invokestatic 126)) (as := [.int l1]) (rest := [.ref (g.2 (1, 0, 0) 0)]) rfl rfl rfl (H _ _ R rfl) (fun x11 h Y10 R H => ?_)
  refine z_pI (t := (1, 0, 0)) (k := 7) rfl rfl rfl rfl rfl R (rc_1 R) (fun h Y12 hY R => ?_)
  replace H := H Y12 hY
  clear hY
  refine y_next (pc' := 33) (xst_of (i := (.aload_n 0)) (len := 1) rfl rfl (x_aloadV (xisV_r _) e0)) ?_
  refine y_next (pc' := 34) (xst_of (i := (.iload_n 1)) (len := 1) rfl rfl (x_ilo e1)) ?_
  refine z_cI (k := 122) (i := (.invokestatic 129)) (as := [.int l1]) (rest := [.ref (g.2 (1, 0, 0) 0)]) rfl rfl rfl (H _ _ R rfl) (fun x14 h Y13 R H => ?_)
  refine z_pI (t := (1, 0, 0)) (k := 8) rfl rfl rfl rfl rfl R (rc_1 R) (fun h Y15 hY R => ?_)
  replace H := H Y15 hY
  clear hY
  refine y_next (pc' := 41) (xst_of (i := (.iload_n 1)) (len := 1) rfl rfl (x_ilo e1)) ?_
  refine z_cI (k := 117) (i := (.invokestatic 135)) (as := [.int l1]) (rest := []) rfl rfl rfl (H _ _ R rfl) (fun x17 h Y16 R H => ?_)
  exact y_ret (xst_of (i := .ireturn) (len := 1) rfl rfl rfl) ⟨_, _, rfl, R, H⟩
theorem l_7_0 {V : xV} {g : xG} {Y : xW} {l1 : Int32} {l2 : Int32} {Q : Int32 → xW → Prop} (H : ((l1 = 2 → L_80_0 V g Y (23, 0, 0) (fI Y (1, 0, 0) 4) 1 (fI Y (1, 0, 0) 8) (fI Y (1, 0, 0) 8) (fun Y1 => Q 0 Y1)) ∧ (l1 = 3 → L_82_0 V g Y (23, 0, 0) (fI Y (1, 0, 0) 4) (fI Y (1, 0, 0) 5) (fun Y2 => Q 0 Y2)) ∧ (l1 = 4 → L_9_0 V g Y  (fun x4 Y3 => Q x4 Y3)) ∧ (l1 = 5 → L_10_0 V g Y  (fun x6 Y5 => Q x6 Y5)) ∧ (l1 = 6 → L_12_0 V g Y  (fun x8 Y7 => Q x8 Y7)) ∧ (l1 = 7 → L_14_0 V g Y  (fun x10 Y9 => Q x10 Y9)) ∧ (l1 = 8 → L_15_0 V g Y  (fun x12 Y11 => Q x12 Y11)) ∧ (l1 = 9 → L_77_0 V g Y (23, 0, 0) (fI Y (1, 0, 0) 5) (fun x14 Y13 => L_78_0 V g Y13 (23, 0, 0) (fI Y13 (1, 0, 0) 5) (fun x16 Y15 => L_11_0 V g Y15 1 (x14 + (Int32.toInt64 (fI Y13 (1, 0, 0) 8))) (x16 + (Int32.toInt64 (fI Y15 (1, 0, 0) 8))) (fun x18 Y17 => Q x18 Y17)))) ∧ (l1 = 10 → L_8_0 V g Y 0 (Int32.toInt64 (fI Y (1, 0, 0) 7)) (fun x20 Y19 => Q x20 Y19)) ∧ (l1 = 11 → L_77_0 V g Y (23, 0, 0) (fI Y (1, 0, 0) 5) (fun x22 Y21 => L_78_0 V g Y21 (23, 0, 0) (fI Y21 (1, 0, 0) 5) (fun x24 Y23 => L_8_0 V g Y23 (x22 >>> (Int32.toInt64 (fI Y21 (1, 0, 0) 7) &&& 63)) (x24 >>> (Int32.toInt64 (fI Y23 (1, 0, 0) 7) &&& 63)) (fun x26 Y25 => Q x26 Y25)))) ∧ (l1 = 12 → L_80_0 V g Y (23, 0, 0) (fI Y (1, 0, 0) 4) 2 (fI Y (1, 0, 0) 7) (fI Y (1, 0, 0) 7) (fun Y27 => Q 0 Y27)) ∧ (l1 = 13 → L_17_0 V g Y l2 (fun x29 Y28 => Q x29 Y28)) ∧ (l1 = 14 → L_79_0 V g Y (23, 0, 0) (fI Y (1, 0, 0) 4) (fun x31 Y30 => ((x31 = 0) → L_7_271 V g Y30 l1 l2 2 Q) ∧ (¬ (x31 = 0) → L_18_0 V g Y30 l2 (fun x33 Y32 => L_7_271 V g Y32 l1 l2 x33 Q))))) ∧ ((Int32.toInt l1 < 2 ∨ 14 < Int32.toInt l1) → Q 0 Y)) : L_7_0 V g Y l1 l2 Q := by
  intro h lv R e0 e1 e2
  refine y_next (pc' := 1) (xst_of (i := (.iload_n 1)) (len := 1) rfl rfl (x_ilo e1)) ?_
  by_cases hx : Int32.toInt l1 < 2 ∨ 14 < Int32.toInt l1
  · replace H := H.2 hx
    refine y_next (xst_of (i := (.tableswitch 271 2 14 #[67, 89, 106, 111, 116, 121, 126, 131, 171, 182, 219, 241, 247])) (len := 67) rfl rfl (x_sw_out (t := 272) hx rfl)) ?_
    refine y_next (pc' := 273) (xst_of (i := (.iconst 0)) (len := 1) rfl rfl (x_ico (v := 0) (by decide))) ?_
    exact y_ret (xst_of (i := .ireturn) (len := 1) rfl rfl rfl) ⟨_, _, rfl, R, H⟩
  · replace H := H.1
    have hy : Int32.toInt l1 = 2 ∨ Int32.toInt l1 = 3 ∨ Int32.toInt l1 = 4 ∨ Int32.toInt l1 = 5 ∨ Int32.toInt l1 = 6 ∨ Int32.toInt l1 = 7 ∨ Int32.toInt l1 = 8 ∨ Int32.toInt l1 = 9 ∨ Int32.toInt l1 = 10 ∨ Int32.toInt l1 = 11 ∨ Int32.toInt l1 = 12 ∨ Int32.toInt l1 = 13 ∨ Int32.toInt l1 = 14 := by omega
    rcases hy with hy | hy | hy | hy | hy | hy | hy | hy | hy | hy | hy | hy | hy
    · replace H := H.1
      have hz : l1 = 2 := Int32.toInt_inj.mp (hy.trans rfl)
      replace H := H hz
      refine y_next (xst_of (i := (.tableswitch 271 2 14 #[67, 89, 106, 111, 116, 121, 126, 131, 171, 182, 219, 241, 247])) (len := 67) rfl rfl (x_sw_in (t := 68) hx (by rw [hy]; rfl) rfl)) ?_
      refine y_next (pc' := 69) (xst_of (i := (.aload_n 0)) (len := 1) rfl rfl (x_aloadV (xisV_r _) e0)) ?_
      refine z_gO (t := (1, 0, 0)) (k := 0) rfl rfl rfl R (rc_1 R) ?_
      refine y_next (pc' := 73) (xst_of (i := (.aload_n 0)) (len := 1) rfl rfl (x_aloadV (xisV_r _) e0)) ?_
      refine z_gI (t := (1, 0, 0)) (k := 4) rfl rfl rfl R (rc_1 R) ?_
      refine y_next (pc' := 77) (xst_of (i := (.iconst 1)) (len := 1) rfl rfl (x_ico (v := 1) (by decide))) ?_
      refine y_next (pc' := 78) (xst_of (i := (.aload_n 0)) (len := 1) rfl rfl (x_aloadV (xisV_r _) e0)) ?_
      refine z_gI (t := (1, 0, 0)) (k := 8) rfl rfl rfl R (rc_1 R) ?_
      refine y_next (pc' := 82) (xst_of (i := (.aload_n 0)) (len := 1) rfl rfl (x_aloadV (xisV_r _) e0)) ?_
      refine z_gI (t := (1, 0, 0)) (k := 8) rfl rfl rfl R (rc_1 R) ?_
      refine z_cN (k := 80) (i := (.invokevirtual 138)) (as := [.ref (g.2 (23, 0, 0) 0), .int (fI Y (1, 0, 0) 4), .int 1, .int (fI Y (1, 0, 0) 8), .int (fI Y (1, 0, 0) 8)]) (rest := []) rfl rfl (x_callv rfl rfl (rc_ob R (rc_sb R (rc_1 R) (k := 0) rfl rfl) rfl) rfl rfl) (H _ _ R rfl rfl rfl rfl rfl (rc_sb R (rc_1 R) (k := 0) rfl rfl)) (fun h Y1 R H => ?_)
      refine y_next (pc' := 89) (xst_of (i := (.iconst 0)) (len := 1) rfl rfl (x_ico (v := 0) (by decide))) ?_
      exact y_ret (xst_of (i := .ireturn) (len := 1) rfl rfl rfl) ⟨_, _, rfl, R, H⟩
    · replace H := H.2.1
      have hz : l1 = 3 := Int32.toInt_inj.mp (hy.trans rfl)
      replace H := H hz
      refine y_next (xst_of (i := (.tableswitch 271 2 14 #[67, 89, 106, 111, 116, 121, 126, 131, 171, 182, 219, 241, 247])) (len := 67) rfl rfl (x_sw_in (t := 90) hx (by rw [hy]; rfl) rfl)) ?_
      refine y_next (pc' := 91) (xst_of (i := (.aload_n 0)) (len := 1) rfl rfl (x_aloadV (xisV_r _) e0)) ?_
      refine z_gO (t := (1, 0, 0)) (k := 0) rfl rfl rfl R (rc_1 R) ?_
      refine y_next (pc' := 95) (xst_of (i := (.aload_n 0)) (len := 1) rfl rfl (x_aloadV (xisV_r _) e0)) ?_
      refine z_gI (t := (1, 0, 0)) (k := 4) rfl rfl rfl R (rc_1 R) ?_
      refine y_next (pc' := 99) (xst_of (i := (.aload_n 0)) (len := 1) rfl rfl (x_aloadV (xisV_r _) e0)) ?_
      refine z_gI (t := (1, 0, 0)) (k := 5) rfl rfl rfl R (rc_1 R) ?_
      refine z_cN (k := 82) (i := (.invokevirtual 142)) (as := [.ref (g.2 (23, 0, 0) 0), .int (fI Y (1, 0, 0) 4), .int (fI Y (1, 0, 0) 5)]) (rest := []) rfl rfl (x_callv rfl rfl (rc_ob R (rc_sb R (rc_1 R) (k := 0) rfl rfl) rfl) rfl rfl) (H _ _ R rfl rfl rfl (rc_sb R (rc_1 R) (k := 0) rfl rfl)) (fun h Y2 R H => ?_)
      refine y_next (pc' := 106) (xst_of (i := (.iconst 0)) (len := 1) rfl rfl (x_ico (v := 0) (by decide))) ?_
      exact y_ret (xst_of (i := .ireturn) (len := 1) rfl rfl rfl) ⟨_, _, rfl, R, H⟩
    · replace H := H.2.2.1
      have hz : l1 = 4 := Int32.toInt_inj.mp (hy.trans rfl)
      replace H := H hz
      refine y_next (xst_of (i := (.tableswitch 271 2 14 #[67, 89, 106, 111, 116, 121, 126, 131, 171, 182, 219, 241, 247])) (len := 67) rfl rfl (x_sw_in (t := 107) hx (by rw [hy]; rfl) rfl)) ?_
      refine y_next (pc' := 108) (xst_of (i := (.aload_n 0)) (len := 1) rfl rfl (x_aloadV (xisV_r _) e0)) ?_
      refine z_cI (k := 9) (i := (.invokevirtual 146)) (as := [.ref (g.2 (1, 0, 0) 0)]) (rest := []) rfl rfl (x_callv rfl rfl (rc_ob R (rc_1 R) rfl) rfl rfl) (H _ _ R rfl) (fun x4 h Y3 R H => ?_)
      exact y_ret (xst_of (i := .ireturn) (len := 1) rfl rfl rfl) ⟨_, _, rfl, R, H⟩
    · replace H := H.2.2.2.1
      have hz : l1 = 5 := Int32.toInt_inj.mp (hy.trans rfl)
      replace H := H hz
      refine y_next (xst_of (i := (.tableswitch 271 2 14 #[67, 89, 106, 111, 116, 121, 126, 131, 171, 182, 219, 241, 247])) (len := 67) rfl rfl (x_sw_in (t := 112) hx (by rw [hy]; rfl) rfl)) ?_
      refine y_next (pc' := 113) (xst_of (i := (.aload_n 0)) (len := 1) rfl rfl (x_aloadV (xisV_r _) e0)) ?_
      refine z_cI (k := 10) (i := (.invokevirtual 150)) (as := [.ref (g.2 (1, 0, 0) 0)]) (rest := []) rfl rfl (x_callv rfl rfl (rc_ob R (rc_1 R) rfl) rfl rfl) (H _ _ R rfl) (fun x6 h Y5 R H => ?_)
      exact y_ret (xst_of (i := .ireturn) (len := 1) rfl rfl rfl) ⟨_, _, rfl, R, H⟩
    · replace H := H.2.2.2.2.1
      have hz : l1 = 6 := Int32.toInt_inj.mp (hy.trans rfl)
      replace H := H hz
      refine y_next (xst_of (i := (.tableswitch 271 2 14 #[67, 89, 106, 111, 116, 121, 126, 131, 171, 182, 219, 241, 247])) (len := 67) rfl rfl (x_sw_in (t := 117) hx (by rw [hy]; rfl) rfl)) ?_
      refine y_next (pc' := 118) (xst_of (i := (.aload_n 0)) (len := 1) rfl rfl (x_aloadV (xisV_r _) e0)) ?_
      refine z_cI (k := 12) (i := (.invokevirtual 153)) (as := [.ref (g.2 (1, 0, 0) 0)]) (rest := []) rfl rfl (x_callv rfl rfl (rc_ob R (rc_1 R) rfl) rfl rfl) (H _ _ R rfl) (fun x8 h Y7 R H => ?_)
      exact y_ret (xst_of (i := .ireturn) (len := 1) rfl rfl rfl) ⟨_, _, rfl, R, H⟩
    · replace H := H.2.2.2.2.2.1
      have hz : l1 = 7 := Int32.toInt_inj.mp (hy.trans rfl)
      replace H := H hz
      refine y_next (xst_of (i := (.tableswitch 271 2 14 #[67, 89, 106, 111, 116, 121, 126, 131, 171, 182, 219, 241, 247])) (len := 67) rfl rfl (x_sw_in (t := 122) hx (by rw [hy]; rfl) rfl)) ?_
      refine y_next (pc' := 123) (xst_of (i := (.aload_n 0)) (len := 1) rfl rfl (x_aloadV (xisV_r _) e0)) ?_
      refine z_cI (k := 14) (i := (.invokevirtual 156)) (as := [.ref (g.2 (1, 0, 0) 0)]) (rest := []) rfl rfl (x_callv rfl rfl (rc_ob R (rc_1 R) rfl) rfl rfl) (H _ _ R rfl) (fun x10 h Y9 R H => ?_)
      exact y_ret (xst_of (i := .ireturn) (len := 1) rfl rfl rfl) ⟨_, _, rfl, R, H⟩
    · replace H := H.2.2.2.2.2.2.1
      have hz : l1 = 8 := Int32.toInt_inj.mp (hy.trans rfl)
      replace H := H hz
      refine y_next (xst_of (i := (.tableswitch 271 2 14 #[67, 89, 106, 111, 116, 121, 126, 131, 171, 182, 219, 241, 247])) (len := 67) rfl rfl (x_sw_in (t := 127) hx (by rw [hy]; rfl) rfl)) ?_
      refine y_next (pc' := 128) (xst_of (i := (.aload_n 0)) (len := 1) rfl rfl (x_aloadV (xisV_r _) e0)) ?_
      refine z_cI (k := 15) (i := (.invokevirtual 159)) (as := [.ref (g.2 (1, 0, 0) 0)]) (rest := []) rfl rfl (x_callv rfl rfl (rc_ob R (rc_1 R) rfl) rfl rfl) (H _ _ R rfl) (fun x12 h Y11 R H => ?_)
      exact y_ret (xst_of (i := .ireturn) (len := 1) rfl rfl rfl) ⟨_, _, rfl, R, H⟩
    · replace H := H.2.2.2.2.2.2.2.1
      have hz : l1 = 9 := Int32.toInt_inj.mp (hy.trans rfl)
      replace H := H hz
      refine y_next (xst_of (i := (.tableswitch 271 2 14 #[67, 89, 106, 111, 116, 121, 126, 131, 171, 182, 219, 241, 247])) (len := 67) rfl rfl (x_sw_in (t := 132) hx (by rw [hy]; rfl) rfl)) ?_
      refine y_next (pc' := 133) (xst_of (i := (.aload_n 0)) (len := 1) rfl rfl (x_aloadV (xisV_r _) e0)) ?_
      refine y_next (pc' := 134) (xst_of (i := (.iconst 1)) (len := 1) rfl rfl (x_ico (v := 1) (by decide))) ?_
      refine y_next (pc' := 135) (xst_of (i := (.aload_n 0)) (len := 1) rfl rfl (x_aloadV (xisV_r _) e0)) ?_
      refine z_gO (t := (1, 0, 0)) (k := 0) rfl rfl rfl R (rc_1 R) ?_
      refine y_next (pc' := 139) (xst_of (i := (.aload_n 0)) (len := 1) rfl rfl (x_aloadV (xisV_r _) e0)) ?_
      refine z_gI (t := (1, 0, 0)) (k := 5) rfl rfl rfl R (rc_1 R) ?_
      refine z_cL (k := 77) (i := (.invokevirtual 162)) (as := [.ref (g.2 (23, 0, 0) 0), .int (fI Y (1, 0, 0) 5)]) (rest := [.int 1, .ref (g.2 (1, 0, 0) 0)]) rfl rfl (x_callv rfl rfl (rc_ob R (rc_sb R (rc_1 R) (k := 0) rfl rfl) rfl) rfl rfl) (H _ _ R rfl rfl (rc_sb R (rc_1 R) (k := 0) rfl rfl)) (fun x14 h Y13 R H => ?_)
      refine y_next (pc' := 146) (xst_of (i := (.aload_n 0)) (len := 1) rfl rfl (x_aloadV (xisV_r _) e0)) ?_
      refine z_gI (t := (1, 0, 0)) (k := 8) rfl rfl rfl R (rc_1 R) ?_
      refine y_next (pc' := 150) (xst_of (i := .i2l) (len := 1) rfl rfl rfl) ?_
      refine y_next (pc' := 151) (xst_of (i := .ladd) (len := 1) rfl rfl rfl) ?_
      refine y_next (pc' := 152) (xst_of (i := (.aload_n 0)) (len := 1) rfl rfl (x_aloadV (xisV_r _) e0)) ?_
      refine z_gO (t := (1, 0, 0)) (k := 0) rfl rfl rfl R (rc_1 R) ?_
      refine y_next (pc' := 156) (xst_of (i := (.aload_n 0)) (len := 1) rfl rfl (x_aloadV (xisV_r _) e0)) ?_
      refine z_gI (t := (1, 0, 0)) (k := 5) rfl rfl rfl R (rc_1 R) ?_
      refine z_cL (k := 78) (i := (.invokevirtual 166)) (as := [.ref (g.2 (23, 0, 0) 0), .int (fI Y13 (1, 0, 0) 5)]) (rest := [.long (x14 + (Int32.toInt64 (fI Y13 (1, 0, 0) 8))), .int 1, .ref (g.2 (1, 0, 0) 0)]) rfl rfl (x_callv rfl rfl (rc_ob R (rc_sb R (rc_1 R) (k := 0) rfl rfl) rfl) rfl rfl) (H _ _ R rfl rfl (rc_sb R (rc_1 R) (k := 0) rfl rfl)) (fun x16 h Y15 R H => ?_)
      refine y_next (pc' := 163) (xst_of (i := (.aload_n 0)) (len := 1) rfl rfl (x_aloadV (xisV_r _) e0)) ?_
      refine z_gI (t := (1, 0, 0)) (k := 8) rfl rfl rfl R (rc_1 R) ?_
      refine y_next (pc' := 167) (xst_of (i := .i2l) (len := 1) rfl rfl rfl) ?_
      refine y_next (pc' := 168) (xst_of (i := .ladd) (len := 1) rfl rfl rfl) ?_
      refine z_cI (k := 11) (i := (.invokevirtual 169)) (as := [.ref (g.2 (1, 0, 0) 0), .int 1, .long (x14 + (Int32.toInt64 (fI Y13 (1, 0, 0) 8))), .long (x16 + (Int32.toInt64 (fI Y15 (1, 0, 0) 8)))]) (rest := []) rfl rfl (x_callv rfl rfl (rc_ob R (rc_1 R) rfl) rfl rfl) (H _ _ R rfl rfl rfl rfl) (fun x18 h Y17 R H => ?_)
      exact y_ret (xst_of (i := .ireturn) (len := 1) rfl rfl rfl) ⟨_, _, rfl, R, H⟩
    · replace H := H.2.2.2.2.2.2.2.2.1
      have hz : l1 = 10 := Int32.toInt_inj.mp (hy.trans rfl)
      replace H := H hz
      refine y_next (xst_of (i := (.tableswitch 271 2 14 #[67, 89, 106, 111, 116, 121, 126, 131, 171, 182, 219, 241, 247])) (len := 67) rfl rfl (x_sw_in (t := 172) hx (by rw [hy]; rfl) rfl)) ?_
      refine y_next (pc' := 173) (xst_of (i := (.aload_n 0)) (len := 1) rfl rfl (x_aloadV (xisV_r _) e0)) ?_
      refine y_next (pc' := 174) (xst_of (i := (.lconst 0)) (len := 1) rfl rfl (x_lco (v := 0) (by decide))) ?_
      refine y_next (pc' := 175) (xst_of (i := (.aload_n 0)) (len := 1) rfl rfl (x_aloadV (xisV_r _) e0)) ?_
      refine z_gI (t := (1, 0, 0)) (k := 7) rfl rfl rfl R (rc_1 R) ?_
      refine y_next (pc' := 179) (xst_of (i := .i2l) (len := 1) rfl rfl rfl) ?_
      refine z_cI (k := 8) (i := (.invokevirtual 173)) (as := [.ref (g.2 (1, 0, 0) 0), .long 0, .long (Int32.toInt64 (fI Y (1, 0, 0) 7))]) (rest := []) rfl rfl (x_callv rfl rfl (rc_ob R (rc_1 R) rfl) rfl rfl) (H _ _ R rfl rfl rfl) (fun x20 h Y19 R H => ?_)
      exact y_ret (xst_of (i := .ireturn) (len := 1) rfl rfl rfl) ⟨_, _, rfl, R, H⟩
    · replace H := H.2.2.2.2.2.2.2.2.2.1
      have hz : l1 = 11 := Int32.toInt_inj.mp (hy.trans rfl)
      replace H := H hz
      refine y_next (xst_of (i := (.tableswitch 271 2 14 #[67, 89, 106, 111, 116, 121, 126, 131, 171, 182, 219, 241, 247])) (len := 67) rfl rfl (x_sw_in (t := 183) hx (by rw [hy]; rfl) rfl)) ?_
      refine y_next (pc' := 184) (xst_of (i := (.aload_n 0)) (len := 1) rfl rfl (x_aloadV (xisV_r _) e0)) ?_
      refine y_next (pc' := 185) (xst_of (i := (.aload_n 0)) (len := 1) rfl rfl (x_aloadV (xisV_r _) e0)) ?_
      refine z_gO (t := (1, 0, 0)) (k := 0) rfl rfl rfl R (rc_1 R) ?_
      refine y_next (pc' := 189) (xst_of (i := (.aload_n 0)) (len := 1) rfl rfl (x_aloadV (xisV_r _) e0)) ?_
      refine z_gI (t := (1, 0, 0)) (k := 5) rfl rfl rfl R (rc_1 R) ?_
      refine z_cL (k := 77) (i := (.invokevirtual 162)) (as := [.ref (g.2 (23, 0, 0) 0), .int (fI Y (1, 0, 0) 5)]) (rest := [.ref (g.2 (1, 0, 0) 0)]) rfl rfl (x_callv rfl rfl (rc_ob R (rc_sb R (rc_1 R) (k := 0) rfl rfl) rfl) rfl rfl) (H _ _ R rfl rfl (rc_sb R (rc_1 R) (k := 0) rfl rfl)) (fun x22 h Y21 R H => ?_)
      refine y_next (pc' := 196) (xst_of (i := (.aload_n 0)) (len := 1) rfl rfl (x_aloadV (xisV_r _) e0)) ?_
      refine z_gI (t := (1, 0, 0)) (k := 7) rfl rfl rfl R (rc_1 R) ?_
      refine y_next (pc' := 200) (xst_of (i := .lshr) (len := 1) rfl rfl rfl) ?_
      refine y_next (pc' := 201) (xst_of (i := (.aload_n 0)) (len := 1) rfl rfl (x_aloadV (xisV_r _) e0)) ?_
      refine z_gO (t := (1, 0, 0)) (k := 0) rfl rfl rfl R (rc_1 R) ?_
      refine y_next (pc' := 205) (xst_of (i := (.aload_n 0)) (len := 1) rfl rfl (x_aloadV (xisV_r _) e0)) ?_
      refine z_gI (t := (1, 0, 0)) (k := 5) rfl rfl rfl R (rc_1 R) ?_
      refine z_cL (k := 78) (i := (.invokevirtual 166)) (as := [.ref (g.2 (23, 0, 0) 0), .int (fI Y21 (1, 0, 0) 5)]) (rest := [.long (x22 >>> (Int32.toInt64 (fI Y21 (1, 0, 0) 7) &&& 63)), .ref (g.2 (1, 0, 0) 0)]) rfl rfl (x_callv rfl rfl (rc_ob R (rc_sb R (rc_1 R) (k := 0) rfl rfl) rfl) rfl rfl) (H _ _ R rfl rfl (rc_sb R (rc_1 R) (k := 0) rfl rfl)) (fun x24 h Y23 R H => ?_)
      refine y_next (pc' := 212) (xst_of (i := (.aload_n 0)) (len := 1) rfl rfl (x_aloadV (xisV_r _) e0)) ?_
      refine z_gI (t := (1, 0, 0)) (k := 7) rfl rfl rfl R (rc_1 R) ?_
      refine y_next (pc' := 216) (xst_of (i := .lshr) (len := 1) rfl rfl rfl) ?_
      refine z_cI (k := 8) (i := (.invokevirtual 173)) (as := [.ref (g.2 (1, 0, 0) 0), .long (x22 >>> (Int32.toInt64 (fI Y21 (1, 0, 0) 7) &&& 63)), .long (x24 >>> (Int32.toInt64 (fI Y23 (1, 0, 0) 7) &&& 63))]) (rest := []) rfl rfl (x_callv rfl rfl (rc_ob R (rc_1 R) rfl) rfl rfl) (H _ _ R rfl rfl rfl) (fun x26 h Y25 R H => ?_)
      exact y_ret (xst_of (i := .ireturn) (len := 1) rfl rfl rfl) ⟨_, _, rfl, R, H⟩
    · replace H := H.2.2.2.2.2.2.2.2.2.2.1
      have hz : l1 = 12 := Int32.toInt_inj.mp (hy.trans rfl)
      replace H := H hz
      refine y_next (xst_of (i := (.tableswitch 271 2 14 #[67, 89, 106, 111, 116, 121, 126, 131, 171, 182, 219, 241, 247])) (len := 67) rfl rfl (x_sw_in (t := 220) hx (by rw [hy]; rfl) rfl)) ?_
      refine y_next (pc' := 221) (xst_of (i := (.aload_n 0)) (len := 1) rfl rfl (x_aloadV (xisV_r _) e0)) ?_
      refine z_gO (t := (1, 0, 0)) (k := 0) rfl rfl rfl R (rc_1 R) ?_
      refine y_next (pc' := 225) (xst_of (i := (.aload_n 0)) (len := 1) rfl rfl (x_aloadV (xisV_r _) e0)) ?_
      refine z_gI (t := (1, 0, 0)) (k := 4) rfl rfl rfl R (rc_1 R) ?_
      refine y_next (pc' := 229) (xst_of (i := (.iconst 2)) (len := 1) rfl rfl (x_ico (v := 2) (by decide))) ?_
      refine y_next (pc' := 230) (xst_of (i := (.aload_n 0)) (len := 1) rfl rfl (x_aloadV (xisV_r _) e0)) ?_
      refine z_gI (t := (1, 0, 0)) (k := 7) rfl rfl rfl R (rc_1 R) ?_
      refine y_next (pc' := 234) (xst_of (i := (.aload_n 0)) (len := 1) rfl rfl (x_aloadV (xisV_r _) e0)) ?_
      refine z_gI (t := (1, 0, 0)) (k := 7) rfl rfl rfl R (rc_1 R) ?_
      refine z_cN (k := 80) (i := (.invokevirtual 138)) (as := [.ref (g.2 (23, 0, 0) 0), .int (fI Y (1, 0, 0) 4), .int 2, .int (fI Y (1, 0, 0) 7), .int (fI Y (1, 0, 0) 7)]) (rest := []) rfl rfl (x_callv rfl rfl (rc_ob R (rc_sb R (rc_1 R) (k := 0) rfl rfl) rfl) rfl rfl) (H _ _ R rfl rfl rfl rfl rfl (rc_sb R (rc_1 R) (k := 0) rfl rfl)) (fun h Y27 R H => ?_)
      refine y_next (pc' := 241) (xst_of (i := (.iconst 0)) (len := 1) rfl rfl (x_ico (v := 0) (by decide))) ?_
      exact y_ret (xst_of (i := .ireturn) (len := 1) rfl rfl rfl) ⟨_, _, rfl, R, H⟩
    · replace H := H.2.2.2.2.2.2.2.2.2.2.2.1
      have hz : l1 = 13 := Int32.toInt_inj.mp (hy.trans rfl)
      replace H := H hz
      refine y_next (xst_of (i := (.tableswitch 271 2 14 #[67, 89, 106, 111, 116, 121, 126, 131, 171, 182, 219, 241, 247])) (len := 67) rfl rfl (x_sw_in (t := 242) hx (by rw [hy]; rfl) rfl)) ?_
      refine y_next (pc' := 243) (xst_of (i := (.aload_n 0)) (len := 1) rfl rfl (x_aloadV (xisV_r _) e0)) ?_
      refine y_next (pc' := 244) (xst_of (i := (.iload_n 2)) (len := 1) rfl rfl (x_ilo e2)) ?_
      refine z_cI (k := 17) (i := (.invokevirtual 177)) (as := [.ref (g.2 (1, 0, 0) 0), .int l2]) (rest := []) rfl rfl (x_callv rfl rfl (rc_ob R (rc_1 R) rfl) rfl rfl) (H _ _ R rfl rfl) (fun x29 h Y28 R H => ?_)
      exact y_ret (xst_of (i := .ireturn) (len := 1) rfl rfl rfl) ⟨_, _, rfl, R, H⟩
    · replace H := H.2.2.2.2.2.2.2.2.2.2.2.2
      have hz : l1 = 14 := Int32.toInt_inj.mp (hy.trans rfl)
      replace H := H hz
      refine y_next (xst_of (i := (.tableswitch 271 2 14 #[67, 89, 106, 111, 116, 121, 126, 131, 171, 182, 219, 241, 247])) (len := 67) rfl rfl (x_sw_in (t := 248) hx (by rw [hy]; rfl) rfl)) ?_
      refine y_next (pc' := 249) (xst_of (i := (.aload_n 0)) (len := 1) rfl rfl (x_aloadV (xisV_r _) e0)) ?_
      refine z_gO (t := (1, 0, 0)) (k := 0) rfl rfl rfl R (rc_1 R) ?_
      refine y_next (pc' := 253) (xst_of (i := (.aload_n 0)) (len := 1) rfl rfl (x_aloadV (xisV_r _) e0)) ?_
      refine z_gI (t := (1, 0, 0)) (k := 4) rfl rfl rfl R (rc_1 R) ?_
      refine z_cI (k := 79) (i := (.invokevirtual 74)) (as := [.ref (g.2 (23, 0, 0) 0), .int (fI Y (1, 0, 0) 4)]) (rest := []) rfl rfl (x_callv rfl rfl (rc_ob R (rc_sb R (rc_1 R) (k := 0) rfl rfl) rfl) rfl rfl) (H _ _ R rfl rfl (rc_sb R (rc_1 R) (k := 0) rfl rfl)) (fun x31 h Y30 R H => ?_)
      by_cases hc : x31 = 0
      · replace H := H.1 hc
        refine y_next (xst_of (i := (.ifCond .eq 11)) (len := 3) rfl rfl (xt_if_eq (t := 270) rfl hc)) ?_
        refine y_next (pc' := 271) (xst_of (i := (.iconst 2)) (len := 1) rfl rfl (x_ico (v := 2) (by decide))) ?_
        exact H _ _ R e0 e1 e2
      · replace H := H.2 hc
        refine y_next (pc' := 262) (xst_of (i := (.ifCond .eq 11)) (len := 3) rfl rfl (xf_if_eq (t := 270) rfl hc)) ?_
        refine y_next (pc' := 263) (xst_of (i := (.aload_n 0)) (len := 1) rfl rfl (x_aloadV (xisV_r _) e0)) ?_
        refine y_next (pc' := 264) (xst_of (i := (.iload_n 2)) (len := 1) rfl rfl (x_ilo e2)) ?_
        refine z_cI (k := 18) (i := (.invokevirtual 180)) (as := [.ref (g.2 (1, 0, 0) 0), .int l2]) (rest := []) rfl rfl (x_callv rfl rfl (rc_ob R (rc_1 R) rfl) rfl rfl) (H _ _ R rfl rfl) (fun x33 h Y32 R H => ?_)
        refine y_next (pc' := 271) (xst_of (i := (.goto 4)) (len := 3) rfl rfl rfl) ?_
        exact H _ _ R e0 e1 e2
theorem l_7_271 {V : xV} {g : xG} {Y : xW} {l1 : Int32} {l2 : Int32} {s0 : Int32} {Q : Int32 → xW → Prop} (H : Q s0 Y) : L_7_271 V g Y l1 l2 s0 Q := by
  intro h lv R e0 e1 e2
  exact y_ret (xst_of (i := .ireturn) (len := 1) rfl rfl rfl) ⟨_, _, rfl, R, H⟩
theorem l_8_0 {V : xV} {g : xG} {Y : xW} {l1 : Int64} {l3 : Int64} {Q : Int32 → xW → Prop} (H : L_79_0 V g Y (23, 0, 0) (fI Y (1, 0, 0) 5) (fun x2 Y1 => ((x2 = 0) → Q 2 Y1) ∧ (¬ (x2 = 0) → L_81_0 V g Y1 (23, 0, 0) (fI Y1 (1, 0, 0) 4) l1 l3 (fun Y3 => Q 0 Y3)))) : L_8_0 V g Y l1 l3 Q := by
  intro h lv R e0 e1 e3
  refine y_next (pc' := 1) (xst_of (i := (.aload_n 0)) (len := 1) rfl rfl (x_aloadV (xisV_r _) e0)) ?_
  refine z_gO (t := (1, 0, 0)) (k := 0) rfl rfl rfl R (rc_1 R) ?_
  refine y_next (pc' := 5) (xst_of (i := (.aload_n 0)) (len := 1) rfl rfl (x_aloadV (xisV_r _) e0)) ?_
  refine z_gI (t := (1, 0, 0)) (k := 5) rfl rfl rfl R (rc_1 R) ?_
  refine z_cI (k := 79) (i := (.invokevirtual 74)) (as := [.ref (g.2 (23, 0, 0) 0), .int (fI Y (1, 0, 0) 5)]) (rest := []) rfl rfl (x_callv rfl rfl (rc_ob R (rc_sb R (rc_1 R) (k := 0) rfl rfl) rfl) rfl rfl) (H _ _ R rfl rfl (rc_sb R (rc_1 R) (k := 0) rfl rfl)) (fun x2 h Y1 R H => ?_)
  by_cases hc : x2 = 0
  · replace H := H.1 hc
    refine y_next (pc' := 14) (xst_of (i := (.ifCond .ne 5)) (len := 3) rfl rfl (xf_if_ne (t := 16) rfl (fun z => z hc))) ?_
    refine y_next (pc' := 15) (xst_of (i := (.iconst 2)) (len := 1) rfl rfl (x_ico (v := 2) (by decide))) ?_
    exact y_ret (xst_of (i := .ireturn) (len := 1) rfl rfl rfl) ⟨_, _, rfl, R, H⟩
  · replace H := H.2 hc
    refine y_next (xst_of (i := (.ifCond .ne 5)) (len := 3) rfl rfl (xt_if_ne (t := 16) rfl hc)) ?_
    refine y_next (pc' := 17) (xst_of (i := (.aload_n 0)) (len := 1) rfl rfl (x_aloadV (xisV_r _) e0)) ?_
    refine z_gO (t := (1, 0, 0)) (k := 0) rfl rfl rfl R (rc_1 R) ?_
    refine y_next (pc' := 21) (xst_of (i := (.aload_n 0)) (len := 1) rfl rfl (x_aloadV (xisV_r _) e0)) ?_
    refine z_gI (t := (1, 0, 0)) (k := 4) rfl rfl rfl R (rc_1 R) ?_
    refine y_next (pc' := 25) (xst_of (i := (.lload_n 1)) (len := 1) rfl rfl (x_llo e1)) ?_
    refine y_next (pc' := 26) (xst_of (i := (.lload_n 3)) (len := 1) rfl rfl (x_llo e3)) ?_
    refine z_cN (k := 81) (i := (.invokevirtual 183)) (as := [.ref (g.2 (23, 0, 0) 0), .int (fI Y1 (1, 0, 0) 4), .long l1, .long l3]) (rest := []) rfl rfl (x_callv rfl rfl (rc_ob R (rc_sb R (rc_1 R) (k := 0) rfl rfl) rfl) rfl rfl) (H _ _ R rfl rfl rfl rfl (rc_sb R (rc_1 R) (k := 0) rfl rfl)) (fun h Y3 R H => ?_)
    refine y_next (pc' := 30) (xst_of (i := (.iconst 0)) (len := 1) rfl rfl (x_ico (v := 0) (by decide))) ?_
    exact y_ret (xst_of (i := .ireturn) (len := 1) rfl rfl rfl) ⟨_, _, rfl, R, H⟩
theorem l_9_0 {V : xV} {g : xG} {Y : xW}  {Q : Int32 → xW → Prop} (H : L_76_0 V g Y (23, 0, 0) (fI Y (1, 0, 0) 6) (fun x2 Y1 => L_77_0 V g Y1 (23, 0, 0) (fI Y1 (1, 0, 0) 5) (fun x4 Y3 => L_77_0 V g Y3 (23, 0, 0) (fI Y3 (1, 0, 0) 6) (fun x6 Y5 => L_78_0 V g Y5 (23, 0, 0) (fI Y5 (1, 0, 0) 5) (fun x8 Y7 => L_78_0 V g Y7 (23, 0, 0) (fI Y7 (1, 0, 0) 6) (fun x10 Y9 => L_11_0 V g Y9 x2 (x4 + x6) (x8 + x10) (fun x12 Y11 => Q x12 Y11))))))) : L_9_0 V g Y  Q := by
  intro h lv R e0
  refine y_next (pc' := 1) (xst_of (i := (.aload_n 0)) (len := 1) rfl rfl (x_aloadV (xisV_r _) e0)) ?_
  refine y_next (pc' := 2) (xst_of (i := (.aload_n 0)) (len := 1) rfl rfl (x_aloadV (xisV_r _) e0)) ?_
  refine z_gO (t := (1, 0, 0)) (k := 0) rfl rfl rfl R (rc_1 R) ?_
  refine y_next (pc' := 6) (xst_of (i := (.aload_n 0)) (len := 1) rfl rfl (x_aloadV (xisV_r _) e0)) ?_
  refine z_gI (t := (1, 0, 0)) (k := 6) rfl rfl rfl R (rc_1 R) ?_
  refine z_cI (k := 76) (i := (.invokevirtual 187)) (as := [.ref (g.2 (23, 0, 0) 0), .int (fI Y (1, 0, 0) 6)]) (rest := [.ref (g.2 (1, 0, 0) 0)]) rfl rfl (x_callv rfl rfl (rc_ob R (rc_sb R (rc_1 R) (k := 0) rfl rfl) rfl) rfl rfl) (H _ _ R rfl rfl (rc_sb R (rc_1 R) (k := 0) rfl rfl)) (fun x2 h Y1 R H => ?_)
  refine y_next (pc' := 13) (xst_of (i := (.aload_n 0)) (len := 1) rfl rfl (x_aloadV (xisV_r _) e0)) ?_
  refine z_gO (t := (1, 0, 0)) (k := 0) rfl rfl rfl R (rc_1 R) ?_
  refine y_next (pc' := 17) (xst_of (i := (.aload_n 0)) (len := 1) rfl rfl (x_aloadV (xisV_r _) e0)) ?_
  refine z_gI (t := (1, 0, 0)) (k := 5) rfl rfl rfl R (rc_1 R) ?_
  refine z_cL (k := 77) (i := (.invokevirtual 162)) (as := [.ref (g.2 (23, 0, 0) 0), .int (fI Y1 (1, 0, 0) 5)]) (rest := [.int x2, .ref (g.2 (1, 0, 0) 0)]) rfl rfl (x_callv rfl rfl (rc_ob R (rc_sb R (rc_1 R) (k := 0) rfl rfl) rfl) rfl rfl) (H _ _ R rfl rfl (rc_sb R (rc_1 R) (k := 0) rfl rfl)) (fun x4 h Y3 R H => ?_)
  refine y_next (pc' := 24) (xst_of (i := (.aload_n 0)) (len := 1) rfl rfl (x_aloadV (xisV_r _) e0)) ?_
  refine z_gO (t := (1, 0, 0)) (k := 0) rfl rfl rfl R (rc_1 R) ?_
  refine y_next (pc' := 28) (xst_of (i := (.aload_n 0)) (len := 1) rfl rfl (x_aloadV (xisV_r _) e0)) ?_
  refine z_gI (t := (1, 0, 0)) (k := 6) rfl rfl rfl R (rc_1 R) ?_
  refine z_cL (k := 77) (i := (.invokevirtual 162)) (as := [.ref (g.2 (23, 0, 0) 0), .int (fI Y3 (1, 0, 0) 6)]) (rest := [.long x4, .int x2, .ref (g.2 (1, 0, 0) 0)]) rfl rfl (x_callv rfl rfl (rc_ob R (rc_sb R (rc_1 R) (k := 0) rfl rfl) rfl) rfl rfl) (H _ _ R rfl rfl (rc_sb R (rc_1 R) (k := 0) rfl rfl)) (fun x6 h Y5 R H => ?_)
  refine y_next (pc' := 35) (xst_of (i := .ladd) (len := 1) rfl rfl rfl) ?_
  refine y_next (pc' := 36) (xst_of (i := (.aload_n 0)) (len := 1) rfl rfl (x_aloadV (xisV_r _) e0)) ?_
  refine z_gO (t := (1, 0, 0)) (k := 0) rfl rfl rfl R (rc_1 R) ?_
  refine y_next (pc' := 40) (xst_of (i := (.aload_n 0)) (len := 1) rfl rfl (x_aloadV (xisV_r _) e0)) ?_
  refine z_gI (t := (1, 0, 0)) (k := 5) rfl rfl rfl R (rc_1 R) ?_
  refine z_cL (k := 78) (i := (.invokevirtual 166)) (as := [.ref (g.2 (23, 0, 0) 0), .int (fI Y5 (1, 0, 0) 5)]) (rest := [.long (x4 + x6), .int x2, .ref (g.2 (1, 0, 0) 0)]) rfl rfl (x_callv rfl rfl (rc_ob R (rc_sb R (rc_1 R) (k := 0) rfl rfl) rfl) rfl rfl) (H _ _ R rfl rfl (rc_sb R (rc_1 R) (k := 0) rfl rfl)) (fun x8 h Y7 R H => ?_)
  refine y_next (pc' := 47) (xst_of (i := (.aload_n 0)) (len := 1) rfl rfl (x_aloadV (xisV_r _) e0)) ?_
  refine z_gO (t := (1, 0, 0)) (k := 0) rfl rfl rfl R (rc_1 R) ?_
  refine y_next (pc' := 51) (xst_of (i := (.aload_n 0)) (len := 1) rfl rfl (x_aloadV (xisV_r _) e0)) ?_
  refine z_gI (t := (1, 0, 0)) (k := 6) rfl rfl rfl R (rc_1 R) ?_
  refine z_cL (k := 78) (i := (.invokevirtual 166)) (as := [.ref (g.2 (23, 0, 0) 0), .int (fI Y7 (1, 0, 0) 6)]) (rest := [.long x8, .long (x4 + x6), .int x2, .ref (g.2 (1, 0, 0) 0)]) rfl rfl (x_callv rfl rfl (rc_ob R (rc_sb R (rc_1 R) (k := 0) rfl rfl) rfl) rfl rfl) (H _ _ R rfl rfl (rc_sb R (rc_1 R) (k := 0) rfl rfl)) (fun x10 h Y9 R H => ?_)
  refine y_next (pc' := 58) (xst_of (i := .ladd) (len := 1) rfl rfl rfl) ?_
  refine z_cI (k := 11) (i := (.invokevirtual 169)) (as := [.ref (g.2 (1, 0, 0) 0), .int x2, .long (x4 + x6), .long (x8 + x10)]) (rest := []) rfl rfl (x_callv rfl rfl (rc_ob R (rc_1 R) rfl) rfl rfl) (H _ _ R rfl rfl rfl rfl) (fun x12 h Y11 R H => ?_)
  exact y_ret (xst_of (i := .ireturn) (len := 1) rfl rfl rfl) ⟨_, _, rfl, R, H⟩
theorem l_10_0 {V : xV} {g : xG} {Y : xW}  {Q : Int32 → xW → Prop} (H : L_79_0 V g Y (23, 0, 0) (fI Y (1, 0, 0) 6) (fun x2 Y1 => ((x2 = 0) → Q 2 Y1) ∧ (¬ (x2 = 0) → L_77_0 V g Y1 (23, 0, 0) (fI Y1 (1, 0, 0) 5) (fun x4 Y3 => L_78_0 V g Y3 (23, 0, 0) (fI Y3 (1, 0, 0) 6) (fun x6 Y5 => L_78_0 V g Y5 (23, 0, 0) (fI Y5 (1, 0, 0) 5) (fun x8 Y7 => L_77_0 V g Y7 (23, 0, 0) (fI Y7 (1, 0, 0) 6) (fun x10 Y9 => L_11_0 V g Y9 1 (x4 - x6) (x8 - x10) (fun x12 Y11 => Q x12 Y11)))))))) : L_10_0 V g Y  Q := by
  intro h lv R e0
  refine y_next (pc' := 1) (xst_of (i := (.aload_n 0)) (len := 1) rfl rfl (x_aloadV (xisV_r _) e0)) ?_
  refine z_gO (t := (1, 0, 0)) (k := 0) rfl rfl rfl R (rc_1 R) ?_
  refine y_next (pc' := 5) (xst_of (i := (.aload_n 0)) (len := 1) rfl rfl (x_aloadV (xisV_r _) e0)) ?_
  refine z_gI (t := (1, 0, 0)) (k := 6) rfl rfl rfl R (rc_1 R) ?_
  refine z_cI (k := 79) (i := (.invokevirtual 74)) (as := [.ref (g.2 (23, 0, 0) 0), .int (fI Y (1, 0, 0) 6)]) (rest := []) rfl rfl (x_callv rfl rfl (rc_ob R (rc_sb R (rc_1 R) (k := 0) rfl rfl) rfl) rfl rfl) (H _ _ R rfl rfl (rc_sb R (rc_1 R) (k := 0) rfl rfl)) (fun x2 h Y1 R H => ?_)
  by_cases hc : x2 = 0
  · replace H := H.1 hc
    refine y_next (pc' := 14) (xst_of (i := (.ifCond .ne 5)) (len := 3) rfl rfl (xf_if_ne (t := 16) rfl (fun z => z hc))) ?_
    refine y_next (pc' := 15) (xst_of (i := (.iconst 2)) (len := 1) rfl rfl (x_ico (v := 2) (by decide))) ?_
    exact y_ret (xst_of (i := .ireturn) (len := 1) rfl rfl rfl) ⟨_, _, rfl, R, H⟩
  · replace H := H.2 hc
    refine y_next (xst_of (i := (.ifCond .ne 5)) (len := 3) rfl rfl (xt_if_ne (t := 16) rfl hc)) ?_
    refine y_next (pc' := 17) (xst_of (i := (.aload_n 0)) (len := 1) rfl rfl (x_aloadV (xisV_r _) e0)) ?_
    refine y_next (pc' := 18) (xst_of (i := (.iconst 1)) (len := 1) rfl rfl (x_ico (v := 1) (by decide))) ?_
    refine y_next (pc' := 19) (xst_of (i := (.aload_n 0)) (len := 1) rfl rfl (x_aloadV (xisV_r _) e0)) ?_
    refine z_gO (t := (1, 0, 0)) (k := 0) rfl rfl rfl R (rc_1 R) ?_
    refine y_next (pc' := 23) (xst_of (i := (.aload_n 0)) (len := 1) rfl rfl (x_aloadV (xisV_r _) e0)) ?_
    refine z_gI (t := (1, 0, 0)) (k := 5) rfl rfl rfl R (rc_1 R) ?_
    refine z_cL (k := 77) (i := (.invokevirtual 162)) (as := [.ref (g.2 (23, 0, 0) 0), .int (fI Y1 (1, 0, 0) 5)]) (rest := [.int 1, .ref (g.2 (1, 0, 0) 0)]) rfl rfl (x_callv rfl rfl (rc_ob R (rc_sb R (rc_1 R) (k := 0) rfl rfl) rfl) rfl rfl) (H _ _ R rfl rfl (rc_sb R (rc_1 R) (k := 0) rfl rfl)) (fun x4 h Y3 R H => ?_)
    refine y_next (pc' := 30) (xst_of (i := (.aload_n 0)) (len := 1) rfl rfl (x_aloadV (xisV_r _) e0)) ?_
    refine z_gO (t := (1, 0, 0)) (k := 0) rfl rfl rfl R (rc_1 R) ?_
    refine y_next (pc' := 34) (xst_of (i := (.aload_n 0)) (len := 1) rfl rfl (x_aloadV (xisV_r _) e0)) ?_
    refine z_gI (t := (1, 0, 0)) (k := 6) rfl rfl rfl R (rc_1 R) ?_
    refine z_cL (k := 78) (i := (.invokevirtual 166)) (as := [.ref (g.2 (23, 0, 0) 0), .int (fI Y3 (1, 0, 0) 6)]) (rest := [.long x4, .int 1, .ref (g.2 (1, 0, 0) 0)]) rfl rfl (x_callv rfl rfl (rc_ob R (rc_sb R (rc_1 R) (k := 0) rfl rfl) rfl) rfl rfl) (H _ _ R rfl rfl (rc_sb R (rc_1 R) (k := 0) rfl rfl)) (fun x6 h Y5 R H => ?_)
    refine y_next (pc' := 41) (xst_of (i := .lsub) (len := 1) rfl rfl rfl) ?_
    refine y_next (pc' := 42) (xst_of (i := (.aload_n 0)) (len := 1) rfl rfl (x_aloadV (xisV_r _) e0)) ?_
    refine z_gO (t := (1, 0, 0)) (k := 0) rfl rfl rfl R (rc_1 R) ?_
    refine y_next (pc' := 46) (xst_of (i := (.aload_n 0)) (len := 1) rfl rfl (x_aloadV (xisV_r _) e0)) ?_
    refine z_gI (t := (1, 0, 0)) (k := 5) rfl rfl rfl R (rc_1 R) ?_
    refine z_cL (k := 78) (i := (.invokevirtual 166)) (as := [.ref (g.2 (23, 0, 0) 0), .int (fI Y5 (1, 0, 0) 5)]) (rest := [.long (x4 - x6), .int 1, .ref (g.2 (1, 0, 0) 0)]) rfl rfl (x_callv rfl rfl (rc_ob R (rc_sb R (rc_1 R) (k := 0) rfl rfl) rfl) rfl rfl) (H _ _ R rfl rfl (rc_sb R (rc_1 R) (k := 0) rfl rfl)) (fun x8 h Y7 R H => ?_)
    refine y_next (pc' := 53) (xst_of (i := (.aload_n 0)) (len := 1) rfl rfl (x_aloadV (xisV_r _) e0)) ?_
    refine z_gO (t := (1, 0, 0)) (k := 0) rfl rfl rfl R (rc_1 R) ?_
    refine y_next (pc' := 57) (xst_of (i := (.aload_n 0)) (len := 1) rfl rfl (x_aloadV (xisV_r _) e0)) ?_
    refine z_gI (t := (1, 0, 0)) (k := 6) rfl rfl rfl R (rc_1 R) ?_
    refine z_cL (k := 77) (i := (.invokevirtual 162)) (as := [.ref (g.2 (23, 0, 0) 0), .int (fI Y7 (1, 0, 0) 6)]) (rest := [.long x8, .long (x4 - x6), .int 1, .ref (g.2 (1, 0, 0) 0)]) rfl rfl (x_callv rfl rfl (rc_ob R (rc_sb R (rc_1 R) (k := 0) rfl rfl) rfl) rfl rfl) (H _ _ R rfl rfl (rc_sb R (rc_1 R) (k := 0) rfl rfl)) (fun x10 h Y9 R H => ?_)
    refine y_next (pc' := 64) (xst_of (i := .lsub) (len := 1) rfl rfl rfl) ?_
    refine z_cI (k := 11) (i := (.invokevirtual 169)) (as := [.ref (g.2 (1, 0, 0) 0), .int 1, .long (x4 - x6), .long (x8 - x10)]) (rest := []) rfl rfl (x_callv rfl rfl (rc_ob R (rc_1 R) rfl) rfl rfl) (H _ _ R rfl rfl rfl rfl) (fun x12 h Y11 R H => ?_)
    exact y_ret (xst_of (i := .ireturn) (len := 1) rfl rfl rfl) ⟨_, _, rfl, R, H⟩
theorem l_11_0 {V : xV} {g : xG} {Y : xW} {l1 : Int32} {l2 : Int64} {l4 : Int64} {Q : Int32 → xW → Prop} (H : L_76_0 V g Y (23, 0, 0) (fI Y (1, 0, 0) 5) (fun x2 Y1 => ((x2 = 0) → L_11_33 V g Y1 l1 l2 l4 x2 Q) ∧ (¬ (x2 = 0) → ((l1 = 0) → L_11_33 V g Y1 l1 l2 l4 x2 Q) ∧ (¬ (l1 = 0) → ((x2 = 2) → ((l1 = 2) → L_11_33 V g Y1 l1 l2 l4 x2 Q) ∧ (¬ (l1 = 2) → L_11_35 V g Y1 l1 l2 l4 x2 Q)) ∧ (¬ (x2 = 2) → L_11_35 V g Y1 l1 l2 l4 x2 Q))))) : L_11_0 V g Y l1 l2 l4 Q := by
  intro h lv R e0 e1 e2 e4
  refine y_next (pc' := 1) (xst_of (i := (.aload_n 0)) (len := 1) rfl rfl (x_aloadV (xisV_r _) e0)) ?_
  refine z_gO (t := (1, 0, 0)) (k := 0) rfl rfl rfl R (rc_1 R) ?_
  refine y_next (pc' := 5) (xst_of (i := (.aload_n 0)) (len := 1) rfl rfl (x_aloadV (xisV_r _) e0)) ?_
  refine z_gI (t := (1, 0, 0)) (k := 5) rfl rfl rfl R (rc_1 R) ?_
  refine z_cI (k := 76) (i := (.invokevirtual 187)) (as := [.ref (g.2 (23, 0, 0) 0), .int (fI Y (1, 0, 0) 5)]) (rest := []) rfl rfl (x_callv rfl rfl (rc_ob R (rc_sb R (rc_1 R) (k := 0) rfl rfl) rfl) rfl rfl) (H _ _ R rfl rfl (rc_sb R (rc_1 R) (k := 0) rfl rfl)) (fun x2 h Y1 R H => ?_)
  refine z_is (i := (.istore 6)) (len := 2) (pc' := 13) (q := 6) rfl rfl rfl (by decide) (fun lv1 hlv => ?_)
  have e0 := xs1_A hlv e0 rfl rfl
  have e1 := xs1_A hlv e1 rfl rfl
  have e2 := xs1_A hlv e2 rfl rfl
  have e4 := xs1_A hlv e4 rfl rfl
  have e6 := xs1_N hlv
  clear hlv
  refine y_next (pc' := 15) (xst_of (i := (.iload 6)) (len := 2) rfl rfl (x_ilo e6)) ?_
  by_cases hc : x2 = 0
  · replace H := H.1 hc
    refine y_next (xst_of (i := (.ifCond .eq 18)) (len := 3) rfl rfl (xt_if_eq (t := 33) rfl hc)) ?_
    exact H _ _ R e0 e1 e2 e4 e6
  · replace H := H.2 hc
    refine y_next (pc' := 18) (xst_of (i := (.ifCond .eq 18)) (len := 3) rfl rfl (xf_if_eq (t := 33) rfl hc)) ?_
    refine y_next (pc' := 19) (xst_of (i := (.iload_n 1)) (len := 1) rfl rfl (x_ilo e1)) ?_
    by_cases hc : l1 = 0
    · replace H := H.1 hc
      refine y_next (xst_of (i := (.ifCond .eq 14)) (len := 3) rfl rfl (xt_if_eq (t := 33) rfl hc)) ?_
      exact H _ _ R e0 e1 e2 e4 e6
    · replace H := H.2 hc
      refine y_next (pc' := 22) (xst_of (i := (.ifCond .eq 14)) (len := 3) rfl rfl (xf_if_eq (t := 33) rfl hc)) ?_
      refine y_next (pc' := 24) (xst_of (i := (.iload 6)) (len := 2) rfl rfl (x_ilo e6)) ?_
      refine y_next (pc' := 25) (xst_of (i := (.iconst 2)) (len := 1) rfl rfl (x_ico (v := 2) (by decide))) ?_
      by_cases hc : x2 = 2
      · replace H := H.1 hc
        refine y_next (pc' := 28) (xst_of (i := (.if_icmp .ne 10)) (len := 3) rfl rfl (xf_icmp_ne (t := 35) rfl (fun z => z hc))) ?_
        refine y_next (pc' := 29) (xst_of (i := (.iload_n 1)) (len := 1) rfl rfl (x_ilo e1)) ?_
        refine y_next (pc' := 30) (xst_of (i := (.iconst 2)) (len := 1) rfl rfl (x_ico (v := 2) (by decide))) ?_
        by_cases hc : l1 = 2
        · replace H := H.1 hc
          refine y_next (pc' := 33) (xst_of (i := (.if_icmp .ne 5)) (len := 3) rfl rfl (xf_icmp_ne (t := 35) rfl (fun z => z hc))) ?_
          exact H _ _ R e0 e1 e2 e4 e6
        · replace H := H.2 hc
          refine y_next (xst_of (i := (.if_icmp .ne 5)) (len := 3) rfl rfl (xt_icmp_ne (t := 35) rfl hc)) ?_
          exact H _ _ R e0 e1 e2 e4 e6
      · replace H := H.2 hc
        refine y_next (xst_of (i := (.if_icmp .ne 10)) (len := 3) rfl rfl (xt_icmp_ne (t := 35) rfl hc)) ?_
        exact H _ _ R e0 e1 e2 e4 e6
theorem l_11_33 {V : xV} {g : xG} {Y : xW} {l1 : Int32} {l2 : Int64} {l4 : Int64} {l6 : Int32} {Q : Int32 → xW → Prop} (H : Q 2 Y) : L_11_33 V g Y l1 l2 l4 l6 Q := by
  intro h lv R e0 e1 e2 e4 e6
  refine y_next (pc' := 34) (xst_of (i := (.iconst 2)) (len := 1) rfl rfl (x_ico (v := 2) (by decide))) ?_
  exact y_ret (xst_of (i := .ireturn) (len := 1) rfl rfl rfl) ⟨_, _, rfl, R, H⟩
theorem l_11_35 {V : xV} {g : xG} {Y : xW} {l1 : Int32} {l2 : Int64} {l4 : Int64} {l6 : Int32} {Q : Int32 → xW → Prop} (H : ((l6 = 1) → ((l1 = 1) → L_81_0 V g Y (23, 0, 0) (fI Y (1, 0, 0) 4) l2 l4 (fun Y1 => Q 0 Y1)) ∧ (¬ (l1 = 1) → L_11_62 V g Y l1 l2 l4 l6 Q)) ∧ (¬ (l6 = 1) → L_11_62 V g Y l1 l2 l4 l6 Q)) : L_11_35 V g Y l1 l2 l4 l6 Q := by
  intro h lv R e0 e1 e2 e4 e6
  refine y_next (pc' := 37) (xst_of (i := (.iload 6)) (len := 2) rfl rfl (x_ilo e6)) ?_
  refine y_next (pc' := 38) (xst_of (i := (.iconst 1)) (len := 1) rfl rfl (x_ico (v := 1) (by decide))) ?_
  by_cases hc : l6 = 1
  · replace H := H.1 hc
    refine y_next (pc' := 41) (xst_of (i := (.if_icmp .ne 24)) (len := 3) rfl rfl (xf_icmp_ne (t := 62) rfl (fun z => z hc))) ?_
    refine y_next (pc' := 42) (xst_of (i := (.iload_n 1)) (len := 1) rfl rfl (x_ilo e1)) ?_
    refine y_next (pc' := 43) (xst_of (i := (.iconst 1)) (len := 1) rfl rfl (x_ico (v := 1) (by decide))) ?_
    by_cases hc : l1 = 1
    · replace H := H.1 hc
      refine y_next (pc' := 46) (xst_of (i := (.if_icmp .ne 19)) (len := 3) rfl rfl (xf_icmp_ne (t := 62) rfl (fun z => z hc))) ?_
      refine y_next (pc' := 47) (xst_of (i := (.aload_n 0)) (len := 1) rfl rfl (x_aloadV (xisV_r _) e0)) ?_
      refine z_gO (t := (1, 0, 0)) (k := 0) rfl rfl rfl R (rc_1 R) ?_
      refine y_next (pc' := 51) (xst_of (i := (.aload_n 0)) (len := 1) rfl rfl (x_aloadV (xisV_r _) e0)) ?_
      refine z_gI (t := (1, 0, 0)) (k := 4) rfl rfl rfl R (rc_1 R) ?_
      refine y_next (pc' := 55) (xst_of (i := (.lload_n 2)) (len := 1) rfl rfl (x_llo e2)) ?_
      refine y_next (pc' := 57) (xst_of (i := (.lload 4)) (len := 2) rfl rfl (x_llo e4)) ?_
      refine z_cN (k := 81) (i := (.invokevirtual 183)) (as := [.ref (g.2 (23, 0, 0) 0), .int (fI Y (1, 0, 0) 4), .long l2, .long l4]) (rest := []) rfl rfl (x_callv rfl rfl (rc_ob R (rc_sb R (rc_1 R) (k := 0) rfl rfl) rfl) rfl rfl) (H _ _ R rfl rfl rfl rfl (rc_sb R (rc_1 R) (k := 0) rfl rfl)) (fun h Y1 R H => ?_)
      refine y_next (pc' := 61) (xst_of (i := (.iconst 0)) (len := 1) rfl rfl (x_ico (v := 0) (by decide))) ?_
      exact y_ret (xst_of (i := .ireturn) (len := 1) rfl rfl rfl) ⟨_, _, rfl, R, H⟩
    · replace H := H.2 hc
      refine y_next (xst_of (i := (.if_icmp .ne 19)) (len := 3) rfl rfl (xt_icmp_ne (t := 62) rfl hc)) ?_
      exact H _ _ R e0 e1 e2 e4 e6
  · replace H := H.2 hc
    refine y_next (xst_of (i := (.if_icmp .ne 24)) (len := 3) rfl rfl (xt_icmp_ne (t := 62) rfl hc)) ?_
    exact H _ _ R e0 e1 e2 e4 e6
theorem l_11_62 {V : xV} {g : xG} {Y : xW} {l1 : Int32} {l2 : Int64} {l4 : Int64} {l6 : Int32} {Q : Int32 → xW → Prop} (H : ((l2 < (-1000000)) → L_11_79 V g Y l1 l2 l4 l6 Q) ∧ (¬ (l2 < (-1000000)) → ((l4 ≤ 1000000) → L_80_0 V g Y (23, 0, 0) (fI Y (1, 0, 0) 4) 2 (Int64.toInt32 l2) (Int64.toInt32 l4) (fun Y1 => Q 0 Y1)) ∧ (¬ (l4 ≤ 1000000) → L_11_79 V g Y l1 l2 l4 l6 Q))) : L_11_62 V g Y l1 l2 l4 l6 Q := by
  intro h lv R e0 e1 e2 e4 e6
  refine y_next (pc' := 63) (xst_of (i := (.lload_n 2)) (len := 1) rfl rfl (x_llo e2)) ?_
  refine y_next (pc' := 66) (xst_of (i := (.ldc2_w 190)) (len := 3) rfl rfl rfl) ?_
  refine y_next (pc' := 67) (xst_of (i := .lcmp) (len := 1) rfl rfl rfl) ?_
  by_cases hc : l2 < (-1000000)
  · replace H := H.1 hc
    refine y_next (xst_of (i := (.ifCond .lt 12)) (len := 3) rfl rfl (xt_if_lt (t := 79) rfl ((lg_cmp_lt l2 (-1000000)).mpr hc))) ?_
    exact H _ _ R e0 e1 e2 e4 e6
  · replace H := H.2 hc
    refine y_next (pc' := 70) (xst_of (i := (.ifCond .lt 12)) (len := 3) rfl rfl (xf_if_lt (t := 79) rfl (fun z => hc ((lg_cmp_lt l2 (-1000000)).mp z)))) ?_
    refine y_next (pc' := 72) (xst_of (i := (.lload 4)) (len := 2) rfl rfl (x_llo e4)) ?_
    refine y_next (pc' := 75) (xst_of (i := (.ldc2_w 192)) (len := 3) rfl rfl rfl) ?_
    refine y_next (pc' := 76) (xst_of (i := .lcmp) (len := 1) rfl rfl rfl) ?_
    by_cases hc : l4 ≤ 1000000
    · replace H := H.1 hc
      refine y_next (xst_of (i := (.ifCond .le 6)) (len := 3) rfl rfl (xt_if_le (t := 82) rfl ((lg_cmp_le l4 1000000).mpr hc))) ?_
      refine y_next (pc' := 83) (xst_of (i := (.aload_n 0)) (len := 1) rfl rfl (x_aloadV (xisV_r _) e0)) ?_
      refine z_gO (t := (1, 0, 0)) (k := 0) rfl rfl rfl R (rc_1 R) ?_
      refine y_next (pc' := 87) (xst_of (i := (.aload_n 0)) (len := 1) rfl rfl (x_aloadV (xisV_r _) e0)) ?_
      refine z_gI (t := (1, 0, 0)) (k := 4) rfl rfl rfl R (rc_1 R) ?_
      refine y_next (pc' := 91) (xst_of (i := (.iconst 2)) (len := 1) rfl rfl (x_ico (v := 2) (by decide))) ?_
      refine y_next (pc' := 92) (xst_of (i := (.lload_n 2)) (len := 1) rfl rfl (x_llo e2)) ?_
      refine y_next (pc' := 93) (xst_of (i := .l2i) (len := 1) rfl rfl rfl) ?_
      refine y_next (pc' := 95) (xst_of (i := (.lload 4)) (len := 2) rfl rfl (x_llo e4)) ?_
      refine y_next (pc' := 96) (xst_of (i := .l2i) (len := 1) rfl rfl rfl) ?_
      refine z_cN (k := 80) (i := (.invokevirtual 138)) (as := [.ref (g.2 (23, 0, 0) 0), .int (fI Y (1, 0, 0) 4), .int 2, .int (Int64.toInt32 l2), .int (Int64.toInt32 l4)]) (rest := []) rfl rfl (x_callv rfl rfl (rc_ob R (rc_sb R (rc_1 R) (k := 0) rfl rfl) rfl) rfl rfl) (H _ _ R rfl rfl rfl rfl rfl (rc_sb R (rc_1 R) (k := 0) rfl rfl)) (fun h Y1 R H => ?_)
      refine y_next (pc' := 100) (xst_of (i := (.iconst 0)) (len := 1) rfl rfl (x_ico (v := 0) (by decide))) ?_
      exact y_ret (xst_of (i := .ireturn) (len := 1) rfl rfl rfl) ⟨_, _, rfl, R, H⟩
    · replace H := H.2 hc
      refine y_next (pc' := 79) (xst_of (i := (.ifCond .le 6)) (len := 3) rfl rfl (xf_if_le (t := 82) rfl (fun z => hc ((lg_cmp_le l4 1000000).mp z)))) ?_
      exact H _ _ R e0 e1 e2 e4 e6
theorem l_11_79 {V : xV} {g : xG} {Y : xW} {l1 : Int32} {l2 : Int64} {l4 : Int64} {l6 : Int32} {Q : Int32 → xW → Prop} (H : Q 6 Y) : L_11_79 V g Y l1 l2 l4 l6 Q := by
  intro h lv R e0 e1 e2 e4 e6
  refine y_next (pc' := 81) (xst_of (i := (.bipush 6)) (len := 2) rfl rfl (x_bip (v := 6) (by decide))) ?_
  exact y_ret (xst_of (i := .ireturn) (len := 1) rfl rfl rfl) ⟨_, _, rfl, R, H⟩
theorem l_12_0 {V : xV} {g : xG} {Y : xW}  {Q : Int32 → xW → Prop} (H : L_79_0 V g Y (23, 0, 0) (fI Y (1, 0, 0) 5) (fun x2 Y1 => ((x2 = 0) → L_12_28 V g Y1  Q) ∧ (¬ (x2 = 0) → L_79_0 V g Y1 (23, 0, 0) (fI Y1 (1, 0, 0) 6) (fun x4 Y3 => ((x4 = 0) → L_12_28 V g Y3  Q) ∧ (¬ (x4 = 0) → L_77_0 V g Y3 (23, 0, 0) (fI Y3 (1, 0, 0) 5) (fun x6 Y5 => L_77_0 V g Y5 (23, 0, 0) (fI Y5 (1, 0, 0) 6) (fun x8 Y7 => L_77_0 V g Y7 (23, 0, 0) (fI Y7 (1, 0, 0) 5) (fun x10 Y9 => L_78_0 V g Y9 (23, 0, 0) (fI Y9 (1, 0, 0) 6) (fun x12 Y11 => L_78_0 V g Y11 (23, 0, 0) (fI Y11 (1, 0, 0) 5) (fun x14 Y13 => L_77_0 V g Y13 (23, 0, 0) (fI Y13 (1, 0, 0) 6) (fun x16 Y15 => L_78_0 V g Y15 (23, 0, 0) (fI Y15 (1, 0, 0) 5) (fun x18 Y17 => L_78_0 V g Y17 (23, 0, 0) (fI Y17 (1, 0, 0) 6) (fun x20 Y19 => L_16_0 V g Y19 (x6 * x8) (x10 * x12) (x14 * x16) (x18 * x20) (fun Y21 => Q 0 Y21)))))))))))))) : L_12_0 V g Y  Q := by
  intro h lv R e0
  refine y_next (pc' := 1) (xst_of (i := (.aload_n 0)) (len := 1) rfl rfl (x_aloadV (xisV_r _) e0)) ?_
  refine z_gO (t := (1, 0, 0)) (k := 0) rfl rfl rfl R (rc_1 R) ?_
  refine y_next (pc' := 5) (xst_of (i := (.aload_n 0)) (len := 1) rfl rfl (x_aloadV (xisV_r _) e0)) ?_
  refine z_gI (t := (1, 0, 0)) (k := 5) rfl rfl rfl R (rc_1 R) ?_
  refine z_cI (k := 79) (i := (.invokevirtual 74)) (as := [.ref (g.2 (23, 0, 0) 0), .int (fI Y (1, 0, 0) 5)]) (rest := []) rfl rfl (x_callv rfl rfl (rc_ob R (rc_sb R (rc_1 R) (k := 0) rfl rfl) rfl) rfl rfl) (H _ _ R rfl rfl (rc_sb R (rc_1 R) (k := 0) rfl rfl)) (fun x2 h Y1 R H => ?_)
  by_cases hc : x2 = 0
  · replace H := H.1 hc
    refine y_next (xst_of (i := (.ifCond .eq 17)) (len := 3) rfl rfl (xt_if_eq (t := 28) rfl hc)) ?_
    exact H _ _ R e0
  · replace H := H.2 hc
    refine y_next (pc' := 14) (xst_of (i := (.ifCond .eq 17)) (len := 3) rfl rfl (xf_if_eq (t := 28) rfl hc)) ?_
    refine y_next (pc' := 15) (xst_of (i := (.aload_n 0)) (len := 1) rfl rfl (x_aloadV (xisV_r _) e0)) ?_
    refine z_gO (t := (1, 0, 0)) (k := 0) rfl rfl rfl R (rc_1 R) ?_
    refine y_next (pc' := 19) (xst_of (i := (.aload_n 0)) (len := 1) rfl rfl (x_aloadV (xisV_r _) e0)) ?_
    refine z_gI (t := (1, 0, 0)) (k := 6) rfl rfl rfl R (rc_1 R) ?_
    refine z_cI (k := 79) (i := (.invokevirtual 74)) (as := [.ref (g.2 (23, 0, 0) 0), .int (fI Y1 (1, 0, 0) 6)]) (rest := []) rfl rfl (x_callv rfl rfl (rc_ob R (rc_sb R (rc_1 R) (k := 0) rfl rfl) rfl) rfl rfl) (H _ _ R rfl rfl (rc_sb R (rc_1 R) (k := 0) rfl rfl)) (fun x4 h Y3 R H => ?_)
    by_cases hc : x4 = 0
    · replace H := H.1 hc
      refine y_next (pc' := 28) (xst_of (i := (.ifCond .ne 5)) (len := 3) rfl rfl (xf_if_ne (t := 30) rfl (fun z => z hc))) ?_
      exact H _ _ R e0
    · replace H := H.2 hc
      refine y_next (xst_of (i := (.ifCond .ne 5)) (len := 3) rfl rfl (xt_if_ne (t := 30) rfl hc)) ?_
      refine y_next (pc' := 31) (xst_of (i := (.aload_n 0)) (len := 1) rfl rfl (x_aloadV (xisV_r _) e0)) ?_
      refine y_next (pc' := 32) (xst_of (i := (.aload_n 0)) (len := 1) rfl rfl (x_aloadV (xisV_r _) e0)) ?_
      refine z_gO (t := (1, 0, 0)) (k := 0) rfl rfl rfl R (rc_1 R) ?_
      refine y_next (pc' := 36) (xst_of (i := (.aload_n 0)) (len := 1) rfl rfl (x_aloadV (xisV_r _) e0)) ?_
      refine z_gI (t := (1, 0, 0)) (k := 5) rfl rfl rfl R (rc_1 R) ?_
      refine z_cL (k := 77) (i := (.invokevirtual 162)) (as := [.ref (g.2 (23, 0, 0) 0), .int (fI Y3 (1, 0, 0) 5)]) (rest := [.ref (g.2 (1, 0, 0) 0)]) rfl rfl (x_callv rfl rfl (rc_ob R (rc_sb R (rc_1 R) (k := 0) rfl rfl) rfl) rfl rfl) (H _ _ R rfl rfl (rc_sb R (rc_1 R) (k := 0) rfl rfl)) (fun x6 h Y5 R H => ?_)
      refine y_next (pc' := 43) (xst_of (i := (.aload_n 0)) (len := 1) rfl rfl (x_aloadV (xisV_r _) e0)) ?_
      refine z_gO (t := (1, 0, 0)) (k := 0) rfl rfl rfl R (rc_1 R) ?_
      refine y_next (pc' := 47) (xst_of (i := (.aload_n 0)) (len := 1) rfl rfl (x_aloadV (xisV_r _) e0)) ?_
      refine z_gI (t := (1, 0, 0)) (k := 6) rfl rfl rfl R (rc_1 R) ?_
      refine z_cL (k := 77) (i := (.invokevirtual 162)) (as := [.ref (g.2 (23, 0, 0) 0), .int (fI Y5 (1, 0, 0) 6)]) (rest := [.long x6, .ref (g.2 (1, 0, 0) 0)]) rfl rfl (x_callv rfl rfl (rc_ob R (rc_sb R (rc_1 R) (k := 0) rfl rfl) rfl) rfl rfl) (H _ _ R rfl rfl (rc_sb R (rc_1 R) (k := 0) rfl rfl)) (fun x8 h Y7 R H => ?_)
      refine y_next (pc' := 54) (xst_of (i := .lmul) (len := 1) rfl rfl rfl) ?_
      refine y_next (pc' := 55) (xst_of (i := (.aload_n 0)) (len := 1) rfl rfl (x_aloadV (xisV_r _) e0)) ?_
      refine z_gO (t := (1, 0, 0)) (k := 0) rfl rfl rfl R (rc_1 R) ?_
      refine y_next (pc' := 59) (xst_of (i := (.aload_n 0)) (len := 1) rfl rfl (x_aloadV (xisV_r _) e0)) ?_
      refine z_gI (t := (1, 0, 0)) (k := 5) rfl rfl rfl R (rc_1 R) ?_
      refine z_cL (k := 77) (i := (.invokevirtual 162)) (as := [.ref (g.2 (23, 0, 0) 0), .int (fI Y7 (1, 0, 0) 5)]) (rest := [.long (x6 * x8), .ref (g.2 (1, 0, 0) 0)]) rfl rfl (x_callv rfl rfl (rc_ob R (rc_sb R (rc_1 R) (k := 0) rfl rfl) rfl) rfl rfl) (H _ _ R rfl rfl (rc_sb R (rc_1 R) (k := 0) rfl rfl)) (fun x10 h Y9 R H => ?_)
      refine y_next (pc' := 66) (xst_of (i := (.aload_n 0)) (len := 1) rfl rfl (x_aloadV (xisV_r _) e0)) ?_
      refine z_gO (t := (1, 0, 0)) (k := 0) rfl rfl rfl R (rc_1 R) ?_
      refine y_next (pc' := 70) (xst_of (i := (.aload_n 0)) (len := 1) rfl rfl (x_aloadV (xisV_r _) e0)) ?_
      refine z_gI (t := (1, 0, 0)) (k := 6) rfl rfl rfl R (rc_1 R) ?_
      refine z_cL (k := 78) (i := (.invokevirtual 166)) (as := [.ref (g.2 (23, 0, 0) 0), .int (fI Y9 (1, 0, 0) 6)]) (rest := [.long x10, .long (x6 * x8), .ref (g.2 (1, 0, 0) 0)]) rfl rfl (x_callv rfl rfl (rc_ob R (rc_sb R (rc_1 R) (k := 0) rfl rfl) rfl) rfl rfl) (H _ _ R rfl rfl (rc_sb R (rc_1 R) (k := 0) rfl rfl)) (fun x12 h Y11 R H => ?_)
      refine y_next (pc' := 77) (xst_of (i := .lmul) (len := 1) rfl rfl rfl) ?_
      refine y_next (pc' := 78) (xst_of (i := (.aload_n 0)) (len := 1) rfl rfl (x_aloadV (xisV_r _) e0)) ?_
      refine z_gO (t := (1, 0, 0)) (k := 0) rfl rfl rfl R (rc_1 R) ?_
      refine y_next (pc' := 82) (xst_of (i := (.aload_n 0)) (len := 1) rfl rfl (x_aloadV (xisV_r _) e0)) ?_
      refine z_gI (t := (1, 0, 0)) (k := 5) rfl rfl rfl R (rc_1 R) ?_
      refine z_cL (k := 78) (i := (.invokevirtual 166)) (as := [.ref (g.2 (23, 0, 0) 0), .int (fI Y11 (1, 0, 0) 5)]) (rest := [.long (x10 * x12), .long (x6 * x8), .ref (g.2 (1, 0, 0) 0)]) rfl rfl (x_callv rfl rfl (rc_ob R (rc_sb R (rc_1 R) (k := 0) rfl rfl) rfl) rfl rfl) (H _ _ R rfl rfl (rc_sb R (rc_1 R) (k := 0) rfl rfl)) (fun x14 h Y13 R H => ?_)
      refine y_next (pc' := 89) (xst_of (i := (.aload_n 0)) (len := 1) rfl rfl (x_aloadV (xisV_r _) e0)) ?_
      refine z_gO (t := (1, 0, 0)) (k := 0) rfl rfl rfl R (rc_1 R) ?_
      refine y_next (pc' := 93) (xst_of (i := (.aload_n 0)) (len := 1) rfl rfl (x_aloadV (xisV_r _) e0)) ?_
      refine z_gI (t := (1, 0, 0)) (k := 6) rfl rfl rfl R (rc_1 R) ?_
      refine z_cL (k := 77) (i := (.invokevirtual 162)) (as := [.ref (g.2 (23, 0, 0) 0), .int (fI Y13 (1, 0, 0) 6)]) (rest := [.long x14, .long (x10 * x12), .long (x6 * x8), .ref (g.2 (1, 0, 0) 0)]) rfl rfl (x_callv rfl rfl (rc_ob R (rc_sb R (rc_1 R) (k := 0) rfl rfl) rfl) rfl rfl) (H _ _ R rfl rfl (rc_sb R (rc_1 R) (k := 0) rfl rfl)) (fun x16 h Y15 R H => ?_)
      refine y_next (pc' := 100) (xst_of (i := .lmul) (len := 1) rfl rfl rfl) ?_
      refine y_next (pc' := 101) (xst_of (i := (.aload_n 0)) (len := 1) rfl rfl (x_aloadV (xisV_r _) e0)) ?_
      refine z_gO (t := (1, 0, 0)) (k := 0) rfl rfl rfl R (rc_1 R) ?_
      refine y_next (pc' := 105) (xst_of (i := (.aload_n 0)) (len := 1) rfl rfl (x_aloadV (xisV_r _) e0)) ?_
      refine z_gI (t := (1, 0, 0)) (k := 5) rfl rfl rfl R (rc_1 R) ?_
      refine z_cL (k := 78) (i := (.invokevirtual 166)) (as := [.ref (g.2 (23, 0, 0) 0), .int (fI Y15 (1, 0, 0) 5)]) (rest := [.long (x14 * x16), .long (x10 * x12), .long (x6 * x8), .ref (g.2 (1, 0, 0) 0)]) rfl rfl (x_callv rfl rfl (rc_ob R (rc_sb R (rc_1 R) (k := 0) rfl rfl) rfl) rfl rfl) (H _ _ R rfl rfl (rc_sb R (rc_1 R) (k := 0) rfl rfl)) (fun x18 h Y17 R H => ?_)
      refine y_next (pc' := 112) (xst_of (i := (.aload_n 0)) (len := 1) rfl rfl (x_aloadV (xisV_r _) e0)) ?_
      refine z_gO (t := (1, 0, 0)) (k := 0) rfl rfl rfl R (rc_1 R) ?_
      refine y_next (pc' := 116) (xst_of (i := (.aload_n 0)) (len := 1) rfl rfl (x_aloadV (xisV_r _) e0)) ?_
      refine z_gI (t := (1, 0, 0)) (k := 6) rfl rfl rfl R (rc_1 R) ?_
      refine z_cL (k := 78) (i := (.invokevirtual 166)) (as := [.ref (g.2 (23, 0, 0) 0), .int (fI Y17 (1, 0, 0) 6)]) (rest := [.long x18, .long (x14 * x16), .long (x10 * x12), .long (x6 * x8), .ref (g.2 (1, 0, 0) 0)]) rfl rfl (x_callv rfl rfl (rc_ob R (rc_sb R (rc_1 R) (k := 0) rfl rfl) rfl) rfl rfl) (H _ _ R rfl rfl (rc_sb R (rc_1 R) (k := 0) rfl rfl)) (fun x20 h Y19 R H => ?_)
      refine y_next (pc' := 123) (xst_of (i := .lmul) (len := 1) rfl rfl rfl) ?_
      refine z_cN (k := 16) (i := (.invokevirtual 194)) (as := [.ref (g.2 (1, 0, 0) 0), .long (x6 * x8), .long (x10 * x12), .long (x14 * x16), .long (x18 * x20)]) (rest := []) rfl rfl (x_callv rfl rfl (rc_ob R (rc_1 R) rfl) rfl rfl) (H _ _ R rfl rfl rfl rfl rfl) (fun h Y21 R H => ?_)
      refine y_next (pc' := 127) (xst_of (i := (.iconst 0)) (len := 1) rfl rfl (x_ico (v := 0) (by decide))) ?_
      exact y_ret (xst_of (i := .ireturn) (len := 1) rfl rfl rfl) ⟨_, _, rfl, R, H⟩
theorem l_12_28 {V : xV} {g : xG} {Y : xW}  {Q : Int32 → xW → Prop} (H : Q 2 Y) : L_12_28 V g Y  Q := by
  intro h lv R e0
  refine y_next (pc' := 29) (xst_of (i := (.iconst 2)) (len := 1) rfl rfl (x_ico (v := 2) (by decide))) ?_
  exact y_ret (xst_of (i := .ireturn) (len := 1) rfl rfl rfl) ⟨_, _, rfl, R, H⟩
theorem l_13_0 {V : xV} {g : xG} {Y : xW}  {Q : Int32 → xW → Prop} (H : L_79_0 V g Y (23, 0, 0) (fI Y (1, 0, 0) 5) (fun x2 Y1 => ((x2 = 0) → L_13_28 V g Y1  Q) ∧ (¬ (x2 = 0) → L_79_0 V g Y1 (23, 0, 0) (fI Y1 (1, 0, 0) 6) (fun x4 Y3 => ((x4 = 0) → L_13_28 V g Y3  Q) ∧ (¬ (x4 = 0) → L_77_0 V g Y3 (23, 0, 0) (fI Y3 (1, 0, 0) 6) (fun x6 Y5 => ((0 < x6) → L_13_66 V g Y5  Q) ∧ (¬ (0 < x6) → L_78_0 V g Y5 (23, 0, 0) (fI Y5 (1, 0, 0) 6) (fun x8 Y7 => ((x8 < 0) → L_13_66 V g Y7  Q) ∧ (¬ (x8 < 0) → L_13_67 V g Y7 5 Q))))))))) : L_13_0 V g Y  Q := by
  intro h lv R e0
  refine y_next (pc' := 1) (xst_of (i := (.aload_n 0)) (len := 1) rfl rfl (x_aloadV (xisV_r _) e0)) ?_
  refine z_gO (t := (1, 0, 0)) (k := 0) rfl rfl rfl R (rc_1 R) ?_
  refine y_next (pc' := 5) (xst_of (i := (.aload_n 0)) (len := 1) rfl rfl (x_aloadV (xisV_r _) e0)) ?_
  refine z_gI (t := (1, 0, 0)) (k := 5) rfl rfl rfl R (rc_1 R) ?_
  refine z_cI (k := 79) (i := (.invokevirtual 74)) (as := [.ref (g.2 (23, 0, 0) 0), .int (fI Y (1, 0, 0) 5)]) (rest := []) rfl rfl (x_callv rfl rfl (rc_ob R (rc_sb R (rc_1 R) (k := 0) rfl rfl) rfl) rfl rfl) (H _ _ R rfl rfl (rc_sb R (rc_1 R) (k := 0) rfl rfl)) (fun x2 h Y1 R H => ?_)
  by_cases hc : x2 = 0
  · replace H := H.1 hc
    refine y_next (xst_of (i := (.ifCond .eq 17)) (len := 3) rfl rfl (xt_if_eq (t := 28) rfl hc)) ?_
    exact H _ _ R e0
  · replace H := H.2 hc
    refine y_next (pc' := 14) (xst_of (i := (.ifCond .eq 17)) (len := 3) rfl rfl (xf_if_eq (t := 28) rfl hc)) ?_
    refine y_next (pc' := 15) (xst_of (i := (.aload_n 0)) (len := 1) rfl rfl (x_aloadV (xisV_r _) e0)) ?_
    refine z_gO (t := (1, 0, 0)) (k := 0) rfl rfl rfl R (rc_1 R) ?_
    refine y_next (pc' := 19) (xst_of (i := (.aload_n 0)) (len := 1) rfl rfl (x_aloadV (xisV_r _) e0)) ?_
    refine z_gI (t := (1, 0, 0)) (k := 6) rfl rfl rfl R (rc_1 R) ?_
    refine z_cI (k := 79) (i := (.invokevirtual 74)) (as := [.ref (g.2 (23, 0, 0) 0), .int (fI Y1 (1, 0, 0) 6)]) (rest := []) rfl rfl (x_callv rfl rfl (rc_ob R (rc_sb R (rc_1 R) (k := 0) rfl rfl) rfl) rfl rfl) (H _ _ R rfl rfl (rc_sb R (rc_1 R) (k := 0) rfl rfl)) (fun x4 h Y3 R H => ?_)
    by_cases hc : x4 = 0
    · replace H := H.1 hc
      refine y_next (pc' := 28) (xst_of (i := (.ifCond .ne 5)) (len := 3) rfl rfl (xf_if_ne (t := 30) rfl (fun z => z hc))) ?_
      exact H _ _ R e0
    · replace H := H.2 hc
      refine y_next (xst_of (i := (.ifCond .ne 5)) (len := 3) rfl rfl (xt_if_ne (t := 30) rfl hc)) ?_
      refine y_next (pc' := 31) (xst_of (i := (.aload_n 0)) (len := 1) rfl rfl (x_aloadV (xisV_r _) e0)) ?_
      refine z_gO (t := (1, 0, 0)) (k := 0) rfl rfl rfl R (rc_1 R) ?_
      refine y_next (pc' := 35) (xst_of (i := (.aload_n 0)) (len := 1) rfl rfl (x_aloadV (xisV_r _) e0)) ?_
      refine z_gI (t := (1, 0, 0)) (k := 6) rfl rfl rfl R (rc_1 R) ?_
      refine z_cL (k := 77) (i := (.invokevirtual 162)) (as := [.ref (g.2 (23, 0, 0) 0), .int (fI Y3 (1, 0, 0) 6)]) (rest := []) rfl rfl (x_callv rfl rfl (rc_ob R (rc_sb R (rc_1 R) (k := 0) rfl rfl) rfl) rfl rfl) (H _ _ R rfl rfl (rc_sb R (rc_1 R) (k := 0) rfl rfl)) (fun x6 h Y5 R H => ?_)
      refine y_next (pc' := 42) (xst_of (i := (.lconst 0)) (len := 1) rfl rfl (x_lco (v := 0) (by decide))) ?_
      refine y_next (pc' := 43) (xst_of (i := .lcmp) (len := 1) rfl rfl rfl) ?_
      by_cases hc : 0 < x6
      · replace H := H.1 hc
        refine y_next (xst_of (i := (.ifCond .gt 23)) (len := 3) rfl rfl (xt_if_gt (t := 66) rfl ((lg_cmp_gt x6 0).mpr hc))) ?_
        exact H _ _ R e0
      · replace H := H.2 hc
        refine y_next (pc' := 46) (xst_of (i := (.ifCond .gt 23)) (len := 3) rfl rfl (xf_if_gt (t := 66) rfl (fun z => hc ((lg_cmp_gt x6 0).mp z)))) ?_
        refine y_next (pc' := 47) (xst_of (i := (.aload_n 0)) (len := 1) rfl rfl (x_aloadV (xisV_r _) e0)) ?_
        refine z_gO (t := (1, 0, 0)) (k := 0) rfl rfl rfl R (rc_1 R) ?_
        refine y_next (pc' := 51) (xst_of (i := (.aload_n 0)) (len := 1) rfl rfl (x_aloadV (xisV_r _) e0)) ?_
        refine z_gI (t := (1, 0, 0)) (k := 6) rfl rfl rfl R (rc_1 R) ?_
        refine z_cL (k := 78) (i := (.invokevirtual 166)) (as := [.ref (g.2 (23, 0, 0) 0), .int (fI Y5 (1, 0, 0) 6)]) (rest := []) rfl rfl (x_callv rfl rfl (rc_ob R (rc_sb R (rc_1 R) (k := 0) rfl rfl) rfl) rfl rfl) (H _ _ R rfl rfl (rc_sb R (rc_1 R) (k := 0) rfl rfl)) (fun x8 h Y7 R H => ?_)
        refine y_next (pc' := 58) (xst_of (i := (.lconst 0)) (len := 1) rfl rfl (x_lco (v := 0) (by decide))) ?_
        refine y_next (pc' := 59) (xst_of (i := .lcmp) (len := 1) rfl rfl rfl) ?_
        by_cases hc : x8 < 0
        · replace H := H.1 hc
          refine y_next (xst_of (i := (.ifCond .lt 7)) (len := 3) rfl rfl (xt_if_lt (t := 66) rfl ((lg_cmp_lt x8 0).mpr hc))) ?_
          exact H _ _ R e0
        · replace H := H.2 hc
          refine y_next (pc' := 62) (xst_of (i := (.ifCond .lt 7)) (len := 3) rfl rfl (xf_if_lt (t := 66) rfl (fun z => hc ((lg_cmp_lt x8 0).mp z)))) ?_
          refine y_next (pc' := 63) (xst_of (i := (.iconst 5)) (len := 1) rfl rfl (x_ico (v := 5) (by decide))) ?_
          refine y_next (pc' := 67) (xst_of (i := (.goto 4)) (len := 3) rfl rfl rfl) ?_
          exact H _ _ R e0
theorem l_13_28 {V : xV} {g : xG} {Y : xW}  {Q : Int32 → xW → Prop} (H : Q 2 Y) : L_13_28 V g Y  Q := by
  intro h lv R e0
  refine y_next (pc' := 29) (xst_of (i := (.iconst 2)) (len := 1) rfl rfl (x_ico (v := 2) (by decide))) ?_
  exact y_ret (xst_of (i := .ireturn) (len := 1) rfl rfl rfl) ⟨_, _, rfl, R, H⟩
theorem l_13_66 {V : xV} {g : xG} {Y : xW}  {Q : Int32 → xW → Prop} (H : L_13_67 V g Y 0 Q) : L_13_66 V g Y  Q := by
  intro h lv R e0
  refine y_next (pc' := 67) (xst_of (i := (.iconst 0)) (len := 1) rfl rfl (x_ico (v := 0) (by decide))) ?_
  exact H _ _ R e0
theorem l_13_67 {V : xV} {g : xG} {Y : xW} {s0 : Int32} {Q : Int32 → xW → Prop} (H : Q s0 Y) : L_13_67 V g Y s0 Q := by
  intro h lv R e0
  exact y_ret (xst_of (i := .ireturn) (len := 1) rfl rfl rfl) ⟨_, _, rfl, R, H⟩
theorem l_14_0 {V : xV} {g : xG} {Y : xW}  {Q : Int32 → xW → Prop} (H : L_13_0 V g Y  (fun x2 Y1 => L_77_0 V g Y1 (23, 0, 0) (fI Y1 (1, 0, 0) 6) (fun x4 Y3 => L_78_0 V g Y3 (23, 0, 0) (fI Y3 (1, 0, 0) 6) (fun x6 Y5 => ((x2 = 0) → ((x4 = 0) → L_14_47 V g Y5 x2 x4 x6 Q) ∧ (¬ (x4 = 0) → ((x6 = 0) → L_14_47 V g Y5 x2 x4 x6 Q) ∧ (¬ (x6 = 0) → L_77_0 V g Y5 (23, 0, 0) (fI Y5 (1, 0, 0) 5) (fun x8 Y7 => (¬ x4 = 0) ∧ L_77_0 V g Y7 (23, 0, 0) (fI Y7 (1, 0, 0) 5) (fun x10 Y9 => (¬ x6 = 0) ∧ L_78_0 V g Y9 (23, 0, 0) (fI Y9 (1, 0, 0) 5) (fun x12 Y11 => (¬ x4 = 0) ∧ L_78_0 V g Y11 (23, 0, 0) (fI Y11 (1, 0, 0) 5) (fun x14 Y13 => (¬ x6 = 0) ∧ L_16_0 V g Y13 (x8 / x4) (x10 / x6) (x12 / x4) (x14 / x6) (fun Y15 => Q 0 Y15)))))))) ∧ (¬ (x2 = 0) → L_14_47 V g Y5 x2 x4 x6 Q))))) : L_14_0 V g Y  Q := by
  intro h lv R e0
  refine y_next (pc' := 1) (xst_of (i := (.aload_n 0)) (len := 1) rfl rfl (x_aloadV (xisV_r _) e0)) ?_
  refine z_cI (k := 13) (i := (.invokevirtual 198)) (as := [.ref (g.2 (1, 0, 0) 0)]) (rest := []) rfl rfl (x_callv rfl rfl (rc_ob R (rc_1 R) rfl) rfl rfl) (H _ _ R rfl) (fun x2 h Y1 R H => ?_)
  refine z_is (i := (.istore_n 1)) (len := 1) (pc' := 5) (q := 1) rfl rfl rfl (by decide) (fun lv1 hlv => ?_)
  have e0 := xs1_B hlv e0 rfl rfl
  have e1 := xs1_N hlv
  clear hlv
  refine y_next (pc' := 6) (xst_of (i := (.aload_n 0)) (len := 1) rfl rfl (x_aloadV (xisV_r _) e0)) ?_
  refine z_gO (t := (1, 0, 0)) (k := 0) rfl rfl rfl R (rc_1 R) ?_
  refine y_next (pc' := 10) (xst_of (i := (.aload_n 0)) (len := 1) rfl rfl (x_aloadV (xisV_r _) e0)) ?_
  refine z_gI (t := (1, 0, 0)) (k := 6) rfl rfl rfl R (rc_1 R) ?_
  refine z_cL (k := 77) (i := (.invokevirtual 162)) (as := [.ref (g.2 (23, 0, 0) 0), .int (fI Y1 (1, 0, 0) 6)]) (rest := []) rfl rfl (x_callv rfl rfl (rc_ob R (rc_sb R (rc_1 R) (k := 0) rfl rfl) rfl) rfl rfl) (H _ _ R rfl rfl (rc_sb R (rc_1 R) (k := 0) rfl rfl)) (fun x4 h Y3 R H => ?_)
  refine z_ls (i := (.lstore_n 2)) (len := 1) (pc' := 17) (q := 2) rfl rfl rfl (by decide) (fun lv2 hlv => ?_)
  have e0 := xs2_A hlv e0 rfl rfl
  have e1 := xs2_B hlv e1 rfl rfl
  have e2 := xs2_N hlv
  clear hlv
  refine y_next (pc' := 18) (xst_of (i := (.aload_n 0)) (len := 1) rfl rfl (x_aloadV (xisV_r _) e0)) ?_
  refine z_gO (t := (1, 0, 0)) (k := 0) rfl rfl rfl R (rc_1 R) ?_
  refine y_next (pc' := 22) (xst_of (i := (.aload_n 0)) (len := 1) rfl rfl (x_aloadV (xisV_r _) e0)) ?_
  refine z_gI (t := (1, 0, 0)) (k := 6) rfl rfl rfl R (rc_1 R) ?_
  refine z_cL (k := 78) (i := (.invokevirtual 166)) (as := [.ref (g.2 (23, 0, 0) 0), .int (fI Y3 (1, 0, 0) 6)]) (rest := []) rfl rfl (x_callv rfl rfl (rc_ob R (rc_sb R (rc_1 R) (k := 0) rfl rfl) rfl) rfl rfl) (H _ _ R rfl rfl (rc_sb R (rc_1 R) (k := 0) rfl rfl)) (fun x6 h Y5 R H => ?_)
  refine z_ls (i := (.lstore 4)) (len := 2) (pc' := 30) (q := 4) rfl rfl rfl (by decide) (fun lv3 hlv => ?_)
  have e0 := xs2_A hlv e0 rfl rfl
  have e1 := xs2_A hlv e1 rfl rfl
  have e2 := xs2_A hlv e2 rfl rfl
  have e4 := xs2_N hlv
  clear hlv
  refine y_next (pc' := 31) (xst_of (i := (.iload_n 1)) (len := 1) rfl rfl (x_ilo e1)) ?_
  by_cases hc : x2 = 0
  · replace H := H.1 hc
    refine y_next (pc' := 34) (xst_of (i := (.ifCond .ne 16)) (len := 3) rfl rfl (xf_if_ne (t := 47) rfl (fun z => z hc))) ?_
    refine y_next (pc' := 35) (xst_of (i := (.lload_n 2)) (len := 1) rfl rfl (x_llo e2)) ?_
    refine y_next (pc' := 36) (xst_of (i := (.lconst 0)) (len := 1) rfl rfl (x_lco (v := 0) (by decide))) ?_
    refine y_next (pc' := 37) (xst_of (i := .lcmp) (len := 1) rfl rfl rfl) ?_
    by_cases hc : x4 = 0
    · replace H := H.1 hc
      refine y_next (xst_of (i := (.ifCond .eq 10)) (len := 3) rfl rfl (xt_if_eq (t := 47) rfl ((lg_cmp_eq x4 0).mpr hc))) ?_
      exact H _ _ R e0 e1 e2 e4
    · replace H := H.2 hc
      refine y_next (pc' := 40) (xst_of (i := (.ifCond .eq 10)) (len := 3) rfl rfl (xf_if_eq (t := 47) rfl (fun z => hc ((lg_cmp_eq x4 0).mp z)))) ?_
      refine y_next (pc' := 42) (xst_of (i := (.lload 4)) (len := 2) rfl rfl (x_llo e4)) ?_
      refine y_next (pc' := 43) (xst_of (i := (.lconst 0)) (len := 1) rfl rfl (x_lco (v := 0) (by decide))) ?_
      refine y_next (pc' := 44) (xst_of (i := .lcmp) (len := 1) rfl rfl rfl) ?_
      by_cases hc : x6 = 0
      · replace H := H.1 hc
        refine y_next (pc' := 47) (xst_of (i := (.ifCond .ne 5)) (len := 3) rfl rfl (xf_if_ne (t := 49) rfl (fun z => z ((lg_cmp_eq x6 0).mpr hc)))) ?_
        exact H _ _ R e0 e1 e2 e4
      · replace H := H.2 hc
        refine y_next (xst_of (i := (.ifCond .ne 5)) (len := 3) rfl rfl (xt_if_ne (t := 49) rfl (fun z => hc ((lg_cmp_eq x6 0).mp z)))) ?_
        refine y_next (pc' := 50) (xst_of (i := (.aload_n 0)) (len := 1) rfl rfl (x_aloadV (xisV_r _) e0)) ?_
        refine y_next (pc' := 51) (xst_of (i := (.aload_n 0)) (len := 1) rfl rfl (x_aloadV (xisV_r _) e0)) ?_
        refine z_gO (t := (1, 0, 0)) (k := 0) rfl rfl rfl R (rc_1 R) ?_
        refine y_next (pc' := 55) (xst_of (i := (.aload_n 0)) (len := 1) rfl rfl (x_aloadV (xisV_r _) e0)) ?_
        refine z_gI (t := (1, 0, 0)) (k := 5) rfl rfl rfl R (rc_1 R) ?_
        refine z_cL (k := 77) (i := (.invokevirtual 162)) (as := [.ref (g.2 (23, 0, 0) 0), .int (fI Y5 (1, 0, 0) 5)]) (rest := [.ref (g.2 (1, 0, 0) 0)]) rfl rfl (x_callv rfl rfl (rc_ob R (rc_sb R (rc_1 R) (k := 0) rfl rfl) rfl) rfl rfl) (H _ _ R rfl rfl (rc_sb R (rc_1 R) (k := 0) rfl rfl)) (fun x8 h Y7 R H => ?_)
        refine y_next (pc' := 62) (xst_of (i := (.lload_n 2)) (len := 1) rfl rfl (x_llo e2)) ?_
        refine y_next (pc' := 63) (xst_of (i := .ldiv) (len := 1) rfl rfl (x_ldiv H.1)) ?_
        replace H := H.2
        refine y_next (pc' := 64) (xst_of (i := (.aload_n 0)) (len := 1) rfl rfl (x_aloadV (xisV_r _) e0)) ?_
        refine z_gO (t := (1, 0, 0)) (k := 0) rfl rfl rfl R (rc_1 R) ?_
        refine y_next (pc' := 68) (xst_of (i := (.aload_n 0)) (len := 1) rfl rfl (x_aloadV (xisV_r _) e0)) ?_
        refine z_gI (t := (1, 0, 0)) (k := 5) rfl rfl rfl R (rc_1 R) ?_
        refine z_cL (k := 77) (i := (.invokevirtual 162)) (as := [.ref (g.2 (23, 0, 0) 0), .int (fI Y7 (1, 0, 0) 5)]) (rest := [.long (x8 / x4), .ref (g.2 (1, 0, 0) 0)]) rfl rfl (x_callv rfl rfl (rc_ob R (rc_sb R (rc_1 R) (k := 0) rfl rfl) rfl) rfl rfl) (H _ _ R rfl rfl (rc_sb R (rc_1 R) (k := 0) rfl rfl)) (fun x10 h Y9 R H => ?_)
        refine y_next (pc' := 76) (xst_of (i := (.lload 4)) (len := 2) rfl rfl (x_llo e4)) ?_
        refine y_next (pc' := 77) (xst_of (i := .ldiv) (len := 1) rfl rfl (x_ldiv H.1)) ?_
        replace H := H.2
        refine y_next (pc' := 78) (xst_of (i := (.aload_n 0)) (len := 1) rfl rfl (x_aloadV (xisV_r _) e0)) ?_
        refine z_gO (t := (1, 0, 0)) (k := 0) rfl rfl rfl R (rc_1 R) ?_
        refine y_next (pc' := 82) (xst_of (i := (.aload_n 0)) (len := 1) rfl rfl (x_aloadV (xisV_r _) e0)) ?_
        refine z_gI (t := (1, 0, 0)) (k := 5) rfl rfl rfl R (rc_1 R) ?_
        refine z_cL (k := 78) (i := (.invokevirtual 166)) (as := [.ref (g.2 (23, 0, 0) 0), .int (fI Y9 (1, 0, 0) 5)]) (rest := [.long (x10 / x6), .long (x8 / x4), .ref (g.2 (1, 0, 0) 0)]) rfl rfl (x_callv rfl rfl (rc_ob R (rc_sb R (rc_1 R) (k := 0) rfl rfl) rfl) rfl rfl) (H _ _ R rfl rfl (rc_sb R (rc_1 R) (k := 0) rfl rfl)) (fun x12 h Y11 R H => ?_)
        refine y_next (pc' := 89) (xst_of (i := (.lload_n 2)) (len := 1) rfl rfl (x_llo e2)) ?_
        refine y_next (pc' := 90) (xst_of (i := .ldiv) (len := 1) rfl rfl (x_ldiv H.1)) ?_
        replace H := H.2
        refine y_next (pc' := 91) (xst_of (i := (.aload_n 0)) (len := 1) rfl rfl (x_aloadV (xisV_r _) e0)) ?_
        refine z_gO (t := (1, 0, 0)) (k := 0) rfl rfl rfl R (rc_1 R) ?_
        refine y_next (pc' := 95) (xst_of (i := (.aload_n 0)) (len := 1) rfl rfl (x_aloadV (xisV_r _) e0)) ?_
        refine z_gI (t := (1, 0, 0)) (k := 5) rfl rfl rfl R (rc_1 R) ?_
        refine z_cL (k := 78) (i := (.invokevirtual 166)) (as := [.ref (g.2 (23, 0, 0) 0), .int (fI Y11 (1, 0, 0) 5)]) (rest := [.long (x12 / x4), .long (x10 / x6), .long (x8 / x4), .ref (g.2 (1, 0, 0) 0)]) rfl rfl (x_callv rfl rfl (rc_ob R (rc_sb R (rc_1 R) (k := 0) rfl rfl) rfl) rfl rfl) (H _ _ R rfl rfl (rc_sb R (rc_1 R) (k := 0) rfl rfl)) (fun x14 h Y13 R H => ?_)
        refine y_next (pc' := 103) (xst_of (i := (.lload 4)) (len := 2) rfl rfl (x_llo e4)) ?_
        refine y_next (pc' := 104) (xst_of (i := .ldiv) (len := 1) rfl rfl (x_ldiv H.1)) ?_
        replace H := H.2
        refine z_cN (k := 16) (i := (.invokevirtual 194)) (as := [.ref (g.2 (1, 0, 0) 0), .long (x8 / x4), .long (x10 / x6), .long (x12 / x4), .long (x14 / x6)]) (rest := []) rfl rfl (x_callv rfl rfl (rc_ob R (rc_1 R) rfl) rfl rfl) (H _ _ R rfl rfl rfl rfl rfl) (fun h Y15 R H => ?_)
        refine y_next (pc' := 108) (xst_of (i := (.iconst 0)) (len := 1) rfl rfl (x_ico (v := 0) (by decide))) ?_
        exact y_ret (xst_of (i := .ireturn) (len := 1) rfl rfl rfl) ⟨_, _, rfl, R, H⟩
  · replace H := H.2 hc
    refine y_next (xst_of (i := (.ifCond .ne 16)) (len := 3) rfl rfl (xt_if_ne (t := 47) rfl hc)) ?_
    exact H _ _ R e0 e1 e2 e4
theorem l_14_47 {V : xV} {g : xG} {Y : xW} {l1 : Int32} {l2 : Int64} {l4 : Int64} {Q : Int32 → xW → Prop} (H : Q l1 Y) : L_14_47 V g Y l1 l2 l4 Q := by
  intro h lv R e0 e1 e2 e4
  refine y_next (pc' := 48) (xst_of (i := (.iload_n 1)) (len := 1) rfl rfl (x_ilo e1)) ?_
  exact y_ret (xst_of (i := .ireturn) (len := 1) rfl rfl rfl) ⟨_, _, rfl, R, H⟩
