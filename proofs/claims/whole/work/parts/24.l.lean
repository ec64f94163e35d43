theorem l_171_0 {V : xV} {g : xG} {Y : xW}  {Q : Int32 → xW → Prop} (H : (((fI Y (10, 0, 0) 32) = 0) → Q (-1) Y) ∧ (¬ ((fI Y (10, 0, 0) 32) = 0) → vp_in 0 40 ∧ vp_in (fA Y (10, 0, 0) 49 (Int32.toNatClampNeg 0)) 300 ∧ vp_in (fA Y (10, 0, 0) 49 (Int32.toNatClampNeg 0)) 300 ∧ vp_in ((200 * (fA Y (10, 0, 0) 38 (Int32.toNatClampNeg (fA Y (10, 0, 0) 49 (Int32.toNatClampNeg 0))))) + (fA Y (10, 0, 0) 39 (Int32.toNatClampNeg (fA Y (10, 0, 0) 49 (Int32.toNatClampNeg 0))))) 4800 ∧ ∀ Y1, Y1 = uI Y (10, 0, 0) 34 ((fI Y (10, 0, 0) 34) + 1) → vp_in (fA Y (10, 0, 0) 49 (Int32.toNatClampNeg 0)) 300 ∧ vp_in (fA Y (10, 0, 0) 49 (Int32.toNatClampNeg 0)) 300 ∧ ∀ Y2, Y2 = uA Y1 (10, 0, 0) 40 (Int32.toNatClampNeg (fA Y (10, 0, 0) 49 (Int32.toNatClampNeg 0))) ((fA Y1 (10, 0, 0) 40 (Int32.toNatClampNeg (fA Y (10, 0, 0) 49 (Int32.toNatClampNeg 0)))) + 1) → ∀ Y3, Y3 = uI Y2 (10, 0, 0) 33 ((fI Y2 (10, 0, 0) 33) + 1) → L_127_0 V g Y3 (fA Y (10, 0, 0) 12 (Int32.toNatClampNeg ((200 * (fA Y (10, 0, 0) 38 (Int32.toNatClampNeg (fA Y (10, 0, 0) 49 (Int32.toNatClampNeg 0))))) + (fA Y (10, 0, 0) 39 (Int32.toNatClampNeg (fA Y (10, 0, 0) 49 (Int32.toNatClampNeg 0))))))) (fun x5 Y4 => ((x5 = 0) → L_171_81 V g Y4 (fA Y (10, 0, 0) 49 (Int32.toNatClampNeg 0)) (fA Y (10, 0, 0) 12 (Int32.toNatClampNeg ((200 * (fA Y (10, 0, 0) 38 (Int32.toNatClampNeg (fA Y (10, 0, 0) 49 (Int32.toNatClampNeg 0))))) + (fA Y (10, 0, 0) 39 (Int32.toNatClampNeg (fA Y (10, 0, 0) 49 (Int32.toNatClampNeg 0))))))) 1 Q) ∧ (¬ (x5 = 0) → L_171_81 V g Y4 (fA Y (10, 0, 0) 49 (Int32.toNatClampNeg 0)) (fA Y (10, 0, 0) 12 (Int32.toNatClampNeg ((200 * (fA Y (10, 0, 0) 38 (Int32.toNatClampNeg (fA Y (10, 0, 0) 49 (Int32.toNatClampNeg 0))))) + (fA Y (10, 0, 0) 39 (Int32.toNatClampNeg (fA Y (10, 0, 0) 49 (Int32.toNatClampNeg 0))))))) 0 Q)))) : L_171_0 V g Y  Q := by
  intro h lv R e0
  refine y_next (pc' := 1) (xst_of (i := (.aload_n 0)) (len := 1) rfl rfl (x_aloadV (xisV_r _) e0)) ?_
  refine z_gI (t := (10, 0, 0)) (k := 32) rfl rfl rfl R (rc_10 R) ?_
  by_cases hc : (fI Y (10, 0, 0) 32) = 0
  · replace H := H.1 hc
    refine y_next (pc' := 7) (xst_of (i := (.ifCond .ne 5)) (len := 3) rfl rfl (xf_if_ne (t := 9) rfl (fun z => z hc))) ?_
    refine y_next (pc' := 8) (xst_of (i := (.iconst (-1))) (len := 1) rfl rfl (x_ico (v := (-1)) (by decide))) ?_
    exact y_ret (xst_of (i := .ireturn) (len := 1) rfl rfl rfl) ⟨_, _, rfl, R, H⟩
  · replace H := H.2 hc
    refine y_next (xst_of (i := (.ifCond .ne 5)) (len := 3) rfl rfl (xt_if_ne (t := 9) rfl hc)) ?_
    refine y_next (pc' := 10) (xst_of (i := (.aload_n 0)) (len := 1) rfl rfl (x_aloadV (xisV_r _) e0)) ?_
    refine z_gA (t := (10, 0, 0)) (k := 49) rfl rfl rfl R (rc_10 R) ?_
    refine y_next (pc' := 14) (xst_of (i := (.iconst 0)) (len := 1) rfl rfl (x_ico (v := 0) (by decide))) ?_
    refine z_aI (t := (10, 0, 0)) (k := 49) (n := 40) (i := 0) rfl rfl R (rc_10 R) H.1 ?_
    replace H := H.2
    refine z_is (i := (.istore_n 1)) (len := 1) (pc' := 16) (q := 1) rfl rfl rfl (by decide) (fun lv1 hlv => ?_)
    have e0 := xs1_B hlv e0 rfl rfl
    have e1 := xs1_N hlv
    clear hlv
    refine y_next (pc' := 17) (xst_of (i := (.aload_n 0)) (len := 1) rfl rfl (x_aloadV (xisV_r _) e0)) ?_
    refine z_gA (t := (10, 0, 0)) (k := 12) rfl rfl rfl R (rc_10 R) ?_
    refine y_next (pc' := 23) (xst_of (i := (.sipush 200)) (len := 3) rfl rfl (x_sip (v := 200) (by decide))) ?_
    refine y_next (pc' := 24) (xst_of (i := (.aload_n 0)) (len := 1) rfl rfl (x_aloadV (xisV_r _) e0)) ?_
    refine z_gA (t := (10, 0, 0)) (k := 38) rfl rfl rfl R (rc_10 R) ?_
    refine y_next (pc' := 28) (xst_of (i := (.iload_n 1)) (len := 1) rfl rfl (x_ilo e1)) ?_
    refine z_aI (t := (10, 0, 0)) (k := 38) (n := 300) (i := (fA Y (10, 0, 0) 49 (Int32.toNatClampNeg 0))) rfl rfl R (rc_10 R) H.1 ?_
    replace H := H.2
    refine y_next (pc' := 30) (xst_of (i := .imul) (len := 1) rfl rfl rfl) ?_
    refine y_next (pc' := 31) (xst_of (i := (.aload_n 0)) (len := 1) rfl rfl (x_aloadV (xisV_r _) e0)) ?_
    refine z_gA (t := (10, 0, 0)) (k := 39) rfl rfl rfl R (rc_10 R) ?_
    refine y_next (pc' := 35) (xst_of (i := (.iload_n 1)) (len := 1) rfl rfl (x_ilo e1)) ?_
    refine z_aI (t := (10, 0, 0)) (k := 39) (n := 300) (i := (fA Y (10, 0, 0) 49 (Int32.toNatClampNeg 0))) rfl rfl R (rc_10 R) H.1 ?_
    replace H := H.2
    refine y_next (pc' := 37) (xst_of (i := .iadd) (len := 1) rfl rfl rfl) ?_
    refine z_aI (t := (10, 0, 0)) (k := 12) (n := 4800) (i := ((200 * (fA Y (10, 0, 0) 38 (Int32.toNatClampNeg (fA Y (10, 0, 0) 49 (Int32.toNatClampNeg 0))))) + (fA Y (10, 0, 0) 39 (Int32.toNatClampNeg (fA Y (10, 0, 0) 49 (Int32.toNatClampNeg 0)))))) rfl rfl R (rc_10 R) H.1 ?_
    replace H := H.2
    refine z_is (i := (.istore_n 2)) (len := 1) (pc' := 39) (q := 2) rfl rfl rfl (by decide) (fun lv2 hlv => ?_)
    have e0 := xs1_A hlv e0 rfl rfl
    have e1 := xs1_B hlv e1 rfl rfl
    have e2 := xs1_N hlv
    clear hlv
    refine y_next (pc' := 40) (xst_of (i := (.aload_n 0)) (len := 1) rfl rfl (x_aloadV (xisV_r _) e0)) ?_
    refine y_next (pc' := 41) (xst_of (i := .dup) (len := 1) rfl rfl (x_dup rfl)) ?_
    refine z_gI (t := (10, 0, 0)) (k := 34) rfl rfl rfl R (rc_10 R) ?_
    refine y_next (pc' := 45) (xst_of (i := (.iconst 1)) (len := 1) rfl rfl (x_ico (v := 1) (by decide))) ?_
    refine y_next (pc' := 46) (xst_of (i := .iadd) (len := 1) rfl rfl rfl) ?_
    refine z_pI (t := (10, 0, 0)) (k := 34) rfl rfl rfl rfl rfl R (rc_10 R) (fun h Y1 hY R => ?_)
    replace H := H Y1 hY
    clear hY
    refine y_next (pc' := 50) (xst_of (i := (.aload_n 0)) (len := 1) rfl rfl (x_aloadV (xisV_r _) e0)) ?_
    refine z_gA (t := (10, 0, 0)) (k := 40) rfl rfl rfl R (rc_10 R) ?_
    refine y_next (pc' := 54) (xst_of (i := (.iload_n 1)) (len := 1) rfl rfl (x_ilo e1)) ?_
    refine y_next (pc' := 55) (xst_of (i := .dup2) (len := 1) rfl rfl (x_dup2 rfl rfl)) ?_
    refine z_aI (t := (10, 0, 0)) (k := 40) (n := 300) (i := (fA Y (10, 0, 0) 49 (Int32.toNatClampNeg 0))) rfl rfl R (rc_10 R) H.1 ?_
    replace H := H.2
    refine y_next (pc' := 57) (xst_of (i := (.iconst 1)) (len := 1) rfl rfl (x_ico (v := 1) (by decide))) ?_
    refine y_next (pc' := 58) (xst_of (i := .iadd) (len := 1) rfl rfl rfl) ?_
    refine z_sI (t := (10, 0, 0)) (k := 40) (n := 300) (i := (fA Y (10, 0, 0) 49 (Int32.toNatClampNeg 0))) rfl rfl R (rc_10 R) H.1 (fun h Y2 hY R => ?_)
    replace H := H.2 Y2 hY
    clear hY
    refine y_next (pc' := 60) (xst_of (i := (.aload_n 0)) (len := 1) rfl rfl (x_aloadV (xisV_r _) e0)) ?_
    refine y_next (pc' := 61) (xst_of (i := .dup) (len := 1) rfl rfl (x_dup rfl)) ?_
    refine z_gI (t := (10, 0, 0)) (k := 33) rfl rfl rfl R (rc_10 R) ?_
    refine y_next (pc' := 65) (xst_of (i := (.iconst 1)) (len := 1) rfl rfl (x_ico (v := 1) (by decide))) ?_
    refine y_next (pc' := 66) (xst_of (i := .iadd) (len := 1) rfl rfl rfl) ?_
    refine z_pI (t := (10, 0, 0)) (k := 33) rfl rfl rfl rfl rfl R (rc_10 R) (fun h Y3 hY R => ?_)
    replace H := H Y3 hY
    clear hY
    refine y_next (pc' := 70) (xst_of (i := (.iload_n 2)) (len := 1) rfl rfl (x_ilo e2)) ?_
    refine z_cI (k := 127) (i := (.invokestatic 144)) (as := [.int (fA Y (10, 0, 0) 12 (Int32.toNatClampNeg ((200 * (fA Y (10, 0, 0) 38 (Int32.toNatClampNeg (fA Y (10, 0, 0) 49 (Int32.toNatClampNeg 0))))) + (fA Y (10, 0, 0) 39 (Int32.toNatClampNeg (fA Y (10, 0, 0) 49 (Int32.toNatClampNeg 0)))))))]) (rest := []) rfl rfl rfl (H _ _ R rfl) (fun x5 h Y4 R H => ?_)
    by_cases hc : x5 = 0
    · replace H := H.1 hc
      refine y_next (pc' := 76) (xst_of (i := (.ifCond .ne 7)) (len := 3) rfl rfl (xf_if_ne (t := 80) rfl (fun z => z hc))) ?_
      refine y_next (pc' := 77) (xst_of (i := (.iconst 1)) (len := 1) rfl rfl (x_ico (v := 1) (by decide))) ?_
      refine y_next (pc' := 81) (xst_of (i := (.goto 4)) (len := 3) rfl rfl rfl) ?_
      exact H _ _ R e0 e1 e2
    · replace H := H.2 hc
      refine y_next (xst_of (i := (.ifCond .ne 7)) (len := 3) rfl rfl (xt_if_ne (t := 80) rfl hc)) ?_
      refine y_next (pc' := 81) (xst_of (i := (.iconst 0)) (len := 1) rfl rfl (x_ico (v := 0) (by decide))) ?_
      exact H _ _ R e0 e1 e2
theorem l_171_81 {V : xV} {g : xG} {Y : xW} {l1 : Int32} {l2 : Int32} {s0 : Int32} {Q : Int32 → xW → Prop} (H : ((s0 = 0) → L_170_0 V g Y l1 l2 (fun Y1 => L_127_0 V g Y1 l2 (fun x3 Y2 => ((x3 = 1) → L_171_145 V g Y2 l1 l2 s0 Q) ∧ (¬ (x3 = 1) → (((fI Y2 (10, 0, 0) 33) < (fI Y2 (10, 0, 0) 35)) → L_171_170 V g Y2 l1 l2 s0 Q) ∧ (¬ ((fI Y2 (10, 0, 0) 33) < (fI Y2 (10, 0, 0) 35)) → L_171_145 V g Y2 l1 l2 s0 Q))))) ∧ (¬ (s0 = 0) → L_129_0 V g Y l2 (fun x5 Y4 => vp_in ((8 * l1) + x5) 2400 ∧ vp_in l1 300 ∧ ∀ Y6, Y6 = uA Y4 (10, 0, 0) 44 (Int32.toNatClampNeg l1) (fA Y4 (10, 0, 0) 45 (Int32.toNatClampNeg ((8 * l1) + x5))) → L_166_0 V g Y6 l1 1 (fun Y7 => L_167_0 V g Y7 0 (fun Y8 => L_171_170 V g Y8 l1 l2 s0 Q))))) : L_171_81 V g Y l1 l2 s0 Q := by
  intro h lv R e0 e1 e2
  refine z_is (i := (.istore_n 3)) (len := 1) (pc' := 82) (q := 3) rfl rfl rfl (by decide) (fun lv1 hlv => ?_)
  have e0 := xs1_A hlv e0 rfl rfl
  have e1 := xs1_A hlv e1 rfl rfl
  have e2 := xs1_B hlv e2 rfl rfl
  have e3 := xs1_N hlv
  clear hlv
  refine y_next (pc' := 83) (xst_of (i := (.iload_n 3)) (len := 1) rfl rfl (x_ilo e3)) ?_
  by_cases hc : s0 = 0
  · replace H := H.1 hc
    refine y_next (xst_of (i := (.ifCond .eq 37)) (len := 3) rfl rfl (xt_if_eq (t := 120) rfl hc)) ?_
    refine y_next (pc' := 121) (xst_of (i := (.aload_n 0)) (len := 1) rfl rfl (x_aloadV (xisV_r _) e0)) ?_
    refine y_next (pc' := 122) (xst_of (i := (.iload_n 1)) (len := 1) rfl rfl (x_ilo e1)) ?_
    refine y_next (pc' := 123) (xst_of (i := (.iload_n 2)) (len := 1) rfl rfl (x_ilo e2)) ?_
    refine z_cN (k := 170) (i := (.invokevirtual 321)) (as := [.ref (g.2 (10, 0, 0) 0), .int l1, .int l2]) (rest := []) rfl rfl (x_callv rfl rfl (rc_ob R (rc_10 R) rfl) rfl rfl) (H _ _ R rfl rfl rfl) (fun h Y1 R H => ?_)
    refine y_next (pc' := 127) (xst_of (i := (.iload_n 2)) (len := 1) rfl rfl (x_ilo e2)) ?_
    refine z_cI (k := 127) (i := (.invokestatic 144)) (as := [.int l2]) (rest := []) rfl rfl rfl (H _ _ R rfl) (fun x3 h Y2 R H => ?_)
    refine y_next (pc' := 131) (xst_of (i := (.iconst 1)) (len := 1) rfl rfl (x_ico (v := 1) (by decide))) ?_
    by_cases hc : x3 = 1
    · replace H := H.1 hc
      refine y_next (xst_of (i := (.if_icmp .eq 14)) (len := 3) rfl rfl (xt_icmp_eq (t := 145) rfl hc)) ?_
      exact H _ _ R e0 e1 e2 e3
    · replace H := H.2 hc
      refine y_next (pc' := 134) (xst_of (i := (.if_icmp .eq 14)) (len := 3) rfl rfl (xf_icmp_eq (t := 145) rfl hc)) ?_
      refine y_next (pc' := 135) (xst_of (i := (.aload_n 0)) (len := 1) rfl rfl (x_aloadV (xisV_r _) e0)) ?_
      refine z_gI (t := (10, 0, 0)) (k := 33) rfl rfl rfl R (rc_10 R) ?_
      refine y_next (pc' := 139) (xst_of (i := (.aload_n 0)) (len := 1) rfl rfl (x_aloadV (xisV_r _) e0)) ?_
      refine z_gI (t := (10, 0, 0)) (k := 35) rfl rfl rfl R (rc_10 R) ?_
      by_cases hc : (fI Y2 (10, 0, 0) 33) < (fI Y2 (10, 0, 0) 35)
      · replace H := H.1 hc
        refine y_next (xst_of (i := (.if_icmp .lt 28)) (len := 3) rfl rfl (xt_icmp_lt (t := 170) rfl hc)) ?_
        exact H _ _ R e0 e1 e2 e3
      · replace H := H.2 hc
        refine y_next (pc' := 145) (xst_of (i := (.if_icmp .lt 28)) (len := 3) rfl rfl (xf_icmp_lt (t := 170) rfl hc)) ?_
        exact H _ _ R e0 e1 e2 e3
  · replace H := H.2 hc
    refine y_next (pc' := 86) (xst_of (i := (.ifCond .eq 37)) (len := 3) rfl rfl (xf_if_eq (t := 120) rfl hc)) ?_
    refine y_next (pc' := 87) (xst_of (i := (.aload_n 0)) (len := 1) rfl rfl (x_aloadV (xisV_r _) e0)) ?_
    refine z_gA (t := (10, 0, 0)) (k := 44) rfl rfl rfl R (rc_10 R) ?_
    refine y_next (pc' := 91) (xst_of (i := (.iload_n 1)) (len := 1) rfl rfl (x_ilo e1)) ?_
    refine y_next (pc' := 92) (xst_of (i := (.aload_n 0)) (len := 1) rfl rfl (x_aloadV (xisV_r _) e0)) ?_
    refine z_gA (t := (10, 0, 0)) (k := 45) rfl rfl rfl R (rc_10 R) ?_
    refine y_next (pc' := 97) (xst_of (i := (.bipush 8)) (len := 2) rfl rfl (x_bip (v := 8) (by decide))) ?_
    refine y_next (pc' := 98) (xst_of (i := (.iload_n 1)) (len := 1) rfl rfl (x_ilo e1)) ?_
    refine y_next (pc' := 99) (xst_of (i := .imul) (len := 1) rfl rfl rfl) ?_
    refine y_next (pc' := 100) (xst_of (i := (.iload_n 2)) (len := 1) rfl rfl (x_ilo e2)) ?_
    refine z_cI (k := 129) (i := (.invokestatic 151)) (as := [.int l2]) (rest := [.int (8 * l1), .ref (g.2 (10, 0, 0) 46), .int l1, .ref (g.2 (10, 0, 0) 45)]) rfl rfl rfl (H _ _ R rfl) (fun x5 h Y4 R H => ?_)
    refine y_next (pc' := 104) (xst_of (i := .iadd) (len := 1) rfl rfl rfl) ?_
    refine z_aI (t := (10, 0, 0)) (k := 45) (n := 2400) (i := ((8 * l1) + x5)) rfl rfl R (rc_10 R) H.1 ?_
    replace H := H.2
    refine z_sI (t := (10, 0, 0)) (k := 44) (n := 300) (i := l1) rfl rfl R (rc_10 R) H.1 (fun h Y6 hY R => ?_)
    replace H := H.2 Y6 hY
    clear hY
    refine y_next (pc' := 107) (xst_of (i := (.aload_n 0)) (len := 1) rfl rfl (x_aloadV (xisV_r _) e0)) ?_
    refine y_next (pc' := 108) (xst_of (i := (.iload_n 1)) (len := 1) rfl rfl (x_ilo e1)) ?_
    refine y_next (pc' := 109) (xst_of (i := (.iconst 1)) (len := 1) rfl rfl (x_ico (v := 1) (by decide))) ?_
    refine z_cN (k := 166) (i := (.invokevirtual 315)) (as := [.ref (g.2 (10, 0, 0) 0), .int l1, .int 1]) (rest := []) rfl rfl (x_callv rfl rfl (rc_ob R (rc_10 R) rfl) rfl rfl) (H _ _ R rfl rfl rfl) (fun h Y7 R H => ?_)
    refine y_next (pc' := 113) (xst_of (i := (.aload_n 0)) (len := 1) rfl rfl (x_aloadV (xisV_r _) e0)) ?_
    refine y_next (pc' := 114) (xst_of (i := (.iconst 0)) (len := 1) rfl rfl (x_ico (v := 0) (by decide))) ?_
    refine z_cN (k := 167) (i := (.invokevirtual 318)) (as := [.ref (g.2 (10, 0, 0) 0), .int 0]) (rest := []) rfl rfl (x_callv rfl rfl (rc_ob R (rc_10 R) rfl) rfl rfl) (H _ _ R rfl rfl) (fun h Y8 R H => ?_)
    refine y_next (pc' := 170) (xst_of (i := (.goto 53)) (len := 3) rfl rfl rfl) ?_
    exact H _ _ R e0 e1 e2 e3
theorem l_171_145 {V : xV} {g : xG} {Y : xW} {l1 : Int32} {l2 : Int32} {l3 : Int32} {Q : Int32 → xW → Prop} (H : L_167_0 V g Y 0 (fun Y1 => vp_in (fI Y1 (10, 0, 0) 32) 40 ∧ ∀ Y2, Y2 = uA Y1 (10, 0, 0) 49 (Int32.toNatClampNeg (fI Y1 (10, 0, 0) 32)) l1 → ∀ Y3, Y3 = uI Y2 (10, 0, 0) 32 ((fI Y2 (10, 0, 0) 32) + 1) → L_171_170 V g Y3 l1 l2 l3 Q)) : L_171_145 V g Y l1 l2 l3 Q := by
  intro h lv R e0 e1 e2 e3
  refine y_next (pc' := 146) (xst_of (i := (.aload_n 0)) (len := 1) rfl rfl (x_aloadV (xisV_r _) e0)) ?_
  refine y_next (pc' := 147) (xst_of (i := (.iconst 0)) (len := 1) rfl rfl (x_ico (v := 0) (by decide))) ?_
  refine z_cN (k := 167) (i := (.invokevirtual 318)) (as := [.ref (g.2 (10, 0, 0) 0), .int 0]) (rest := []) rfl rfl (x_callv rfl rfl (rc_ob R (rc_10 R) rfl) rfl rfl) (H _ _ R rfl rfl) (fun h Y1 R H => ?_)
  refine y_next (pc' := 151) (xst_of (i := (.aload_n 0)) (len := 1) rfl rfl (x_aloadV (xisV_r _) e0)) ?_
  refine z_gA (t := (10, 0, 0)) (k := 49) rfl rfl rfl R (rc_10 R) ?_
  refine y_next (pc' := 155) (xst_of (i := (.aload_n 0)) (len := 1) rfl rfl (x_aloadV (xisV_r _) e0)) ?_
  refine z_gI (t := (10, 0, 0)) (k := 32) rfl rfl rfl R (rc_10 R) ?_
  refine y_next (pc' := 159) (xst_of (i := (.iload_n 1)) (len := 1) rfl rfl (x_ilo e1)) ?_
  refine z_sI (t := (10, 0, 0)) (k := 49) (n := 40) (i := (fI Y1 (10, 0, 0) 32)) rfl rfl R (rc_10 R) H.1 (fun h Y2 hY R => ?_)
  replace H := H.2 Y2 hY
  clear hY
  refine y_next (pc' := 161) (xst_of (i := (.aload_n 0)) (len := 1) rfl rfl (x_aloadV (xisV_r _) e0)) ?_
  refine y_next (pc' := 162) (xst_of (i := .dup) (len := 1) rfl rfl (x_dup rfl)) ?_
  refine z_gI (t := (10, 0, 0)) (k := 32) rfl rfl rfl R (rc_10 R) ?_
  refine y_next (pc' := 166) (xst_of (i := (.iconst 1)) (len := 1) rfl rfl (x_ico (v := 1) (by decide))) ?_
  refine y_next (pc' := 167) (xst_of (i := .iadd) (len := 1) rfl rfl rfl) ?_
  refine z_pI (t := (10, 0, 0)) (k := 32) rfl rfl rfl rfl rfl R (rc_10 R) (fun h Y3 hY R => ?_)
  replace H := H Y3 hY
  clear hY
  exact H _ _ R e0 e1 e2 e3
theorem l_171_170 {V : xV} {g : xG} {Y : xW} {l1 : Int32} {l2 : Int32} {l3 : Int32} {Q : Int32 → xW → Prop} (H : vp_in l1 300 ∧ vp_in l1 300 ∧ vp_in l1 300 ∧ vp_in l1 300 ∧ ∀ Y1, Y1 = uL Y (10, 0, 0) 46 (Int32.toNatClampNeg l1) (((31 * (fL Y (10, 0, 0) 46 (Int32.toNatClampNeg l1))) + (1000 * (Int32.toInt64 (fA Y (10, 0, 0) 38 (Int32.toNatClampNeg l1))))) + (Int32.toInt64 (fA Y (10, 0, 0) 39 (Int32.toNatClampNeg l1)))) → L_171_209 V g Y1 l1 l2 l3 0 Q) : L_171_170 V g Y l1 l2 l3 Q := by
  intro h lv R e0 e1 e2 e3
  refine y_next (pc' := 171) (xst_of (i := (.aload_n 0)) (len := 1) rfl rfl (x_aloadV (xisV_r _) e0)) ?_
  refine z_gA (t := (10, 0, 0)) (k := 46) rfl rfl rfl R (rc_10 R) ?_
  refine y_next (pc' := 175) (xst_of (i := (.iload_n 1)) (len := 1) rfl rfl (x_ilo e1)) ?_
  refine y_next (pc' := 178) (xst_of (i := (.ldc2_w 324)) (len := 3) rfl rfl rfl) ?_
  refine y_next (pc' := 179) (xst_of (i := (.aload_n 0)) (len := 1) rfl rfl (x_aloadV (xisV_r _) e0)) ?_
  refine z_gA (t := (10, 0, 0)) (k := 46) rfl rfl rfl R (rc_10 R) ?_
  refine y_next (pc' := 183) (xst_of (i := (.iload_n 1)) (len := 1) rfl rfl (x_ilo e1)) ?_
  refine z_aL (t := (10, 0, 0)) (k := 46) (n := 300) (i := l1) rfl rfl R (rc_10 R) H.1 ?_
  replace H := H.2
  refine y_next (pc' := 185) (xst_of (i := .lmul) (len := 1) rfl rfl rfl) ?_
  refine y_next (pc' := 188) (xst_of (i := (.ldc2_w 326)) (len := 3) rfl rfl rfl) ?_
  refine y_next (pc' := 189) (xst_of (i := (.aload_n 0)) (len := 1) rfl rfl (x_aloadV (xisV_r _) e0)) ?_
  refine z_gA (t := (10, 0, 0)) (k := 38) rfl rfl rfl R (rc_10 R) ?_
  refine y_next (pc' := 193) (xst_of (i := (.iload_n 1)) (len := 1) rfl rfl (x_ilo e1)) ?_
  refine z_aI (t := (10, 0, 0)) (k := 38) (n := 300) (i := l1) rfl rfl R (rc_10 R) H.1 ?_
  replace H := H.2
  refine y_next (pc' := 195) (xst_of (i := .i2l) (len := 1) rfl rfl rfl) ?_
  refine y_next (pc' := 196) (xst_of (i := .lmul) (len := 1) rfl rfl rfl) ?_
  refine y_next (pc' := 197) (xst_of (i := .ladd) (len := 1) rfl rfl rfl) ?_
  refine y_next (pc' := 198) (xst_of (i := (.aload_n 0)) (len := 1) rfl rfl (x_aloadV (xisV_r _) e0)) ?_
  refine z_gA (t := (10, 0, 0)) (k := 39) rfl rfl rfl R (rc_10 R) ?_
  refine y_next (pc' := 202) (xst_of (i := (.iload_n 1)) (len := 1) rfl rfl (x_ilo e1)) ?_
  refine z_aI (t := (10, 0, 0)) (k := 39) (n := 300) (i := l1) rfl rfl R (rc_10 R) H.1 ?_
  replace H := H.2
  refine y_next (pc' := 204) (xst_of (i := .i2l) (len := 1) rfl rfl rfl) ?_
  refine y_next (pc' := 205) (xst_of (i := .ladd) (len := 1) rfl rfl rfl) ?_
  refine z_sL (t := (10, 0, 0)) (k := 46) (n := 300) (i := l1) rfl rfl (by decide) R (rc_10 R) H.1 (fun h Y1 hY R => ?_)
  replace H := H.2 Y1 hY
  clear hY
  refine y_next (pc' := 207) (xst_of (i := (.iconst 0)) (len := 1) rfl rfl (x_ico (v := 0) (by decide))) ?_
  refine z_is (i := (.istore 4)) (len := 2) (pc' := 209) (q := 4) rfl rfl rfl (by decide) (fun lv1 hlv => ?_)
  have e0 := xs1_A hlv e0 rfl rfl
  have e1 := xs1_A hlv e1 rfl rfl
  have e2 := xs1_A hlv e2 rfl rfl
  have e3 := xs1_B hlv e3 rfl rfl
  have e4 := xs1_N hlv
  clear hlv
  exact H _ _ R e0 e1 e2 e3 e4
theorem l_171_209 {V : xV} {g : xG} {Y : xW} {l1 : Int32} {l2 : Int32} {l3 : Int32} {l4 : Int32} {Q : Int32 → xW → Prop} (H : ((8 ≤ l4) → Q l1 Y) ∧ (¬ (8 ≤ l4) → vp_in l1 300 ∧ vp_in ((8 * l1) + l4) 2400 ∧ vp_in l1 300 ∧ ∀ Y1, Y1 = uL Y (10, 0, 0) 46 (Int32.toNatClampNeg l1) ((31 * (fL Y (10, 0, 0) 46 (Int32.toNatClampNeg l1))) + (Int32.toInt64 (fA Y (10, 0, 0) 45 (Int32.toNatClampNeg ((8 * l1) + l4))))) → L_171_209 V g Y1 l1 l2 l3 (l4 + 1) Q)) : L_171_209 V g Y l1 l2 l3 l4 Q := by
  intro h lv R e0 e1 e2 e3 e4
  refine y_next (pc' := 211) (xst_of (i := (.iload 4)) (len := 2) rfl rfl (x_ilo e4)) ?_
  refine y_next (pc' := 213) (xst_of (i := (.bipush 8)) (len := 2) rfl rfl (x_bip (v := 8) (by decide))) ?_
  by_cases hc : 8 ≤ l4
  · replace H := H.1 hc
    refine y_next (xst_of (i := (.if_icmp .ge 39)) (len := 3) rfl rfl (xt_icmp_ge (t := 252) rfl hc)) ?_
    refine y_next (pc' := 253) (xst_of (i := (.iload_n 1)) (len := 1) rfl rfl (x_ilo e1)) ?_
    exact y_ret (xst_of (i := .ireturn) (len := 1) rfl rfl rfl) ⟨_, _, rfl, R, H⟩
  · replace H := H.2 hc
    refine y_next (pc' := 216) (xst_of (i := (.if_icmp .ge 39)) (len := 3) rfl rfl (xf_icmp_ge (t := 252) rfl hc)) ?_
    refine y_next (pc' := 217) (xst_of (i := (.aload_n 0)) (len := 1) rfl rfl (x_aloadV (xisV_r _) e0)) ?_
    refine z_gA (t := (10, 0, 0)) (k := 46) rfl rfl rfl R (rc_10 R) ?_
    refine y_next (pc' := 221) (xst_of (i := (.iload_n 1)) (len := 1) rfl rfl (x_ilo e1)) ?_
    refine y_next (pc' := 224) (xst_of (i := (.ldc2_w 324)) (len := 3) rfl rfl rfl) ?_
    refine y_next (pc' := 225) (xst_of (i := (.aload_n 0)) (len := 1) rfl rfl (x_aloadV (xisV_r _) e0)) ?_
    refine z_gA (t := (10, 0, 0)) (k := 46) rfl rfl rfl R (rc_10 R) ?_
    refine y_next (pc' := 229) (xst_of (i := (.iload_n 1)) (len := 1) rfl rfl (x_ilo e1)) ?_
    refine z_aL (t := (10, 0, 0)) (k := 46) (n := 300) (i := l1) rfl rfl R (rc_10 R) H.1 ?_
    replace H := H.2
    refine y_next (pc' := 231) (xst_of (i := .lmul) (len := 1) rfl rfl rfl) ?_
    refine y_next (pc' := 232) (xst_of (i := (.aload_n 0)) (len := 1) rfl rfl (x_aloadV (xisV_r _) e0)) ?_
    refine z_gA (t := (10, 0, 0)) (k := 45) rfl rfl rfl R (rc_10 R) ?_
    refine y_next (pc' := 237) (xst_of (i := (.bipush 8)) (len := 2) rfl rfl (x_bip (v := 8) (by decide))) ?_
    refine y_next (pc' := 238) (xst_of (i := (.iload_n 1)) (len := 1) rfl rfl (x_ilo e1)) ?_
    refine y_next (pc' := 239) (xst_of (i := .imul) (len := 1) rfl rfl rfl) ?_
    refine y_next (pc' := 241) (xst_of (i := (.iload 4)) (len := 2) rfl rfl (x_ilo e4)) ?_
    refine y_next (pc' := 242) (xst_of (i := .iadd) (len := 1) rfl rfl rfl) ?_
    refine z_aI (t := (10, 0, 0)) (k := 45) (n := 2400) (i := ((8 * l1) + l4)) rfl rfl R (rc_10 R) H.1 ?_
    replace H := H.2
    refine y_next (pc' := 244) (xst_of (i := .i2l) (len := 1) rfl rfl rfl) ?_
    refine y_next (pc' := 245) (xst_of (i := .ladd) (len := 1) rfl rfl rfl) ?_
    refine z_sL (t := (10, 0, 0)) (k := 46) (n := 300) (i := l1) rfl rfl (by decide) R (rc_10 R) H.1 (fun h Y1 hY R => ?_)
    replace H := H.2 Y1 hY
    clear hY
    refine z_in (q := 4) (n := 1) (v := 1) rfl e4 (by decide) (by decide) (fun lv1 hlv => ?_)
    have e0 := xs1_A hlv e0 rfl rfl
    have e1 := xs1_A hlv e1 rfl rfl
    have e2 := xs1_A hlv e2 rfl rfl
    have e3 := xs1_B hlv e3 rfl rfl
    have e4 := xs1_N hlv
    clear hlv
    refine y_next (pc' := 209) (xst_of (i := (.goto (-40))) (len := 3) rfl rfl rfl) ?_
    exact H _ _ R e0 e1 e2 e3 e4
theorem l_172_0 {V : xV} {g : xG} {Y : xW}  {Q : Int32 → xW → Prop} (H : ∀ Y1, Y1 = uI Y (10, 0, 0) 2 0 → L_171_0 V g Y1  (fun x3 Y2 => Q x3 Y2)) : L_172_0 V g Y  Q := by
  intro h lv R e0
  refine y_next (pc' := 1) (xst_of (i := (.aload_n 0)) (len := 1) rfl rfl (x_aloadV (xisV_r _) e0)) ?_
  refine y_next (pc' := 2) (xst_of (i := (.iconst 0)) (len := 1) rfl rfl (x_ico (v := 0) (by decide))) ?_
  refine z_pI (t := (10, 0, 0)) (k := 2) rfl rfl rfl rfl rfl R (rc_10 R) (fun h Y1 hY R => ?_)
  replace H := H Y1 hY
  clear hY
  refine y_next (pc' := 6) (xst_of (i := (.aload_n 0)) (len := 1) rfl rfl (x_aloadV (xisV_r _) e0)) ?_
  refine z_cI (k := 171) (i := (.invokevirtual 328)) (as := [.ref (g.2 (10, 0, 0) 0)]) (rest := []) rfl rfl (x_callv rfl rfl (rc_ob R (rc_10 R) rfl) rfl rfl) (H _ _ R rfl) (fun x3 h Y2 R H => ?_)
  exact y_ret (xst_of (i := .ireturn) (len := 1) rfl rfl rfl) ⟨_, _, rfl, R, H⟩
theorem l_173_0 {V : xV} {g : xG} {Y : xW} {l1 : Int32} {Q : Int32 → xW → Prop} (H : ∀ Y1, Y1 = uI Y (10, 0, 0) 2 0 → ((l1 < 0) → L_173_16 V g Y1 l1 Q) ∧ (¬ (l1 < 0) → ((l1 ≤ 5000) → L_173_23 V g Y1 l1 0 Q) ∧ (¬ (l1 ≤ 5000) → L_173_16 V g Y1 l1 Q))) : L_173_0 V g Y l1 Q := by
  intro h lv R e0 e1
  refine y_next (pc' := 1) (xst_of (i := (.aload_n 0)) (len := 1) rfl rfl (x_aloadV (xisV_r _) e0)) ?_
  refine y_next (pc' := 2) (xst_of (i := (.iconst 0)) (len := 1) rfl rfl (x_ico (v := 0) (by decide))) ?_
  refine z_pI (t := (10, 0, 0)) (k := 2) rfl rfl rfl rfl rfl R (rc_10 R) (fun h Y1 hY R => ?_)
  replace H := H Y1 hY
  clear hY
  refine y_next (pc' := 6) (xst_of (i := (.iload_n 1)) (len := 1) rfl rfl (x_ilo e1)) ?_
  by_cases hc : l1 < 0
  · replace H := H.1 hc
    refine y_next (xst_of (i := (.ifCond .lt 10)) (len := 3) rfl rfl (xt_if_lt (t := 16) rfl hc)) ?_
    exact H _ _ R e0 e1
  · replace H := H.2 hc
    refine y_next (pc' := 9) (xst_of (i := (.ifCond .lt 10)) (len := 3) rfl rfl (xf_if_lt (t := 16) rfl hc)) ?_
    refine y_next (pc' := 10) (xst_of (i := (.iload_n 1)) (len := 1) rfl rfl (x_ilo e1)) ?_
    refine y_next (pc' := 13) (xst_of (i := (.sipush 5000)) (len := 3) rfl rfl (x_sip (v := 5000) (by decide))) ?_
    by_cases hc : l1 ≤ 5000
    · replace H := H.1 hc
      refine y_next (xst_of (i := (.if_icmp .le 8)) (len := 3) rfl rfl (xt_icmp_le (t := 21) rfl hc)) ?_
      refine y_next (pc' := 22) (xst_of (i := (.iconst 0)) (len := 1) rfl rfl (x_ico (v := 0) (by decide))) ?_
      refine z_is (i := (.istore_n 2)) (len := 1) (pc' := 23) (q := 2) rfl rfl rfl (by decide) (fun lv1 hlv => ?_)
      have e0 := xs1_A hlv e0 rfl rfl
      have e1 := xs1_B hlv e1 rfl rfl
      have e2 := xs1_N hlv
      clear hlv
      exact H _ _ R e0 e1 e2
    · replace H := H.2 hc
      refine y_next (pc' := 16) (xst_of (i := (.if_icmp .le 8)) (len := 3) rfl rfl (xf_icmp_le (t := 21) rfl hc)) ?_
      exact H _ _ R e0 e1
theorem l_173_16 {V : xV} {g : xG} {Y : xW} {l1 : Int32} {Q : Int32 → xW → Prop} (H : L_125_0 V g Y  (fun x2 Y1 => Q x2 Y1)) : L_173_16 V g Y l1 Q := by
  intro h lv R e0 e1
  refine y_next (pc' := 17) (xst_of (i := (.aload_n 0)) (len := 1) rfl rfl (x_aloadV (xisV_r _) e0)) ?_
  refine z_cI (k := 125) (i := (.invokevirtual 292)) (as := [.ref (g.2 (10, 0, 0) 0)]) (rest := []) rfl rfl (x_callv rfl rfl (rc_ob R (rc_10 R) rfl) rfl rfl) (H _ _ R rfl) (fun x2 h Y1 R H => ?_)
  exact y_ret (xst_of (i := .ireturn) (len := 1) rfl rfl rfl) ⟨_, _, rfl, R, H⟩
theorem l_173_23 {V : xV} {g : xG} {Y : xW} {l1 : Int32} {l2 : Int32} {Q : Int32 → xW → Prop} (H : ((l1 ≤ l2) → L_173_46 V g Y l1 l2 Q) ∧ (¬ (l1 ≤ l2) → (((fI Y (10, 0, 0) 32) ≤ 0) → L_173_46 V g Y l1 l2 Q) ∧ (¬ ((fI Y (10, 0, 0) 32) ≤ 0) → L_171_0 V g Y  (fun x2 Y1 => L_173_23 V g Y1 l1 (l2 + 1) Q)))) : L_173_23 V g Y l1 l2 Q := by
  intro h lv R e0 e1 e2
  refine y_next (pc' := 24) (xst_of (i := (.iload_n 2)) (len := 1) rfl rfl (x_ilo e2)) ?_
  refine y_next (pc' := 25) (xst_of (i := (.iload_n 1)) (len := 1) rfl rfl (x_ilo e1)) ?_
  by_cases hc : l1 ≤ l2
  · replace H := H.1 hc
    refine y_next (xst_of (i := (.if_icmp .ge 21)) (len := 3) rfl rfl (xt_icmp_ge (t := 46) rfl hc)) ?_
    exact H _ _ R e0 e1 e2
  · replace H := H.2 hc
    refine y_next (pc' := 28) (xst_of (i := (.if_icmp .ge 21)) (len := 3) rfl rfl (xf_icmp_ge (t := 46) rfl hc)) ?_
    refine y_next (pc' := 29) (xst_of (i := (.aload_n 0)) (len := 1) rfl rfl (x_aloadV (xisV_r _) e0)) ?_
    refine z_gI (t := (10, 0, 0)) (k := 32) rfl rfl rfl R (rc_10 R) ?_
    by_cases hc : (fI Y (10, 0, 0) 32) ≤ 0
    · replace H := H.1 hc
      refine y_next (xst_of (i := (.ifCond .le 14)) (len := 3) rfl rfl (xt_if_le (t := 46) rfl hc)) ?_
      exact H _ _ R e0 e1 e2
    · replace H := H.2 hc
      refine y_next (pc' := 35) (xst_of (i := (.ifCond .le 14)) (len := 3) rfl rfl (xf_if_le (t := 46) rfl hc)) ?_
      refine y_next (pc' := 36) (xst_of (i := (.aload_n 0)) (len := 1) rfl rfl (x_aloadV (xisV_r _) e0)) ?_
      refine z_cI (k := 171) (i := (.invokevirtual 328)) (as := [.ref (g.2 (10, 0, 0) 0)]) (rest := []) rfl rfl (x_callv rfl rfl (rc_ob R (rc_10 R) rfl) rfl rfl) (H _ _ R rfl) (fun x2 h Y1 R H => ?_)
      refine y_next (pc' := 40) (xst_of (i := .pop) (len := 1) rfl rfl (x_pop rfl)) ?_
      refine z_in (q := 2) (n := 1) (v := 1) rfl e2 (by decide) (by decide) (fun lv1 hlv => ?_)
      have e0 := xs1_A hlv e0 rfl rfl
      have e1 := xs1_B hlv e1 rfl rfl
      have e2 := xs1_N hlv
      clear hlv
      refine y_next (pc' := 23) (xst_of (i := (.goto (-20))) (len := 3) rfl rfl rfl) ?_
      exact H _ _ R e0 e1 e2
theorem l_173_46 {V : xV} {g : xG} {Y : xW} {l1 : Int32} {l2 : Int32} {Q : Int32 → xW → Prop} (H : Q l2 Y) : L_173_46 V g Y l1 l2 Q := by
  intro h lv R e0 e1 e2
  refine y_next (pc' := 47) (xst_of (i := (.iload_n 2)) (len := 1) rfl rfl (x_ilo e2)) ?_
  exact y_ret (xst_of (i := .ireturn) (len := 1) rfl rfl rfl) ⟨_, _, rfl, R, H⟩
theorem l_174_0 {V : xV} {g : xG} {Y : xW} {l1 : Int32} {Q : Int32 → xW → Prop} (H : ∀ Y1, Y1 = uI Y (10, 0, 0) 2 0 → ((l1 < 1) → L_174_16 V g Y1 l1 Q) ∧ (¬ (l1 < 1) → ((l1 ≤ 100) → ∀ Y2, Y2 = uI Y1 (10, 0, 0) 35 l1 → Q (fI Y1 (10, 0, 0) 35) Y2) ∧ (¬ (l1 ≤ 100) → L_174_16 V g Y1 l1 Q))) : L_174_0 V g Y l1 Q := by
  intro h lv R e0 e1
  refine y_next (pc' := 1) (xst_of (i := (.aload_n 0)) (len := 1) rfl rfl (x_aloadV (xisV_r _) e0)) ?_
  refine y_next (pc' := 2) (xst_of (i := (.iconst 0)) (len := 1) rfl rfl (x_ico (v := 0) (by decide))) ?_
  refine z_pI (t := (10, 0, 0)) (k := 2) rfl rfl rfl rfl rfl R (rc_10 R) (fun h Y1 hY R => ?_)
  replace H := H Y1 hY
  clear hY
  refine y_next (pc' := 6) (xst_of (i := (.iload_n 1)) (len := 1) rfl rfl (x_ilo e1)) ?_
  refine y_next (pc' := 7) (xst_of (i := (.iconst 1)) (len := 1) rfl rfl (x_ico (v := 1) (by decide))) ?_
  by_cases hc : l1 < 1
  · replace H := H.1 hc
    refine y_next (xst_of (i := (.if_icmp .lt 9)) (len := 3) rfl rfl (xt_icmp_lt (t := 16) rfl hc)) ?_
    exact H _ _ R e0 e1
  · replace H := H.2 hc
    refine y_next (pc' := 10) (xst_of (i := (.if_icmp .lt 9)) (len := 3) rfl rfl (xf_icmp_lt (t := 16) rfl hc)) ?_
    refine y_next (pc' := 11) (xst_of (i := (.iload_n 1)) (len := 1) rfl rfl (x_ilo e1)) ?_
    refine y_next (pc' := 13) (xst_of (i := (.bipush 100)) (len := 2) rfl rfl (x_bip (v := 100) (by decide))) ?_
    by_cases hc : l1 ≤ 100
    · replace H := H.1 hc
      refine y_next (xst_of (i := (.if_icmp .le 8)) (len := 3) rfl rfl (xt_icmp_le (t := 21) rfl hc)) ?_
      refine y_next (pc' := 22) (xst_of (i := (.aload_n 0)) (len := 1) rfl rfl (x_aloadV (xisV_r _) e0)) ?_
      refine z_gI (t := (10, 0, 0)) (k := 35) rfl rfl rfl R (rc_10 R) ?_
      refine z_is (i := (.istore_n 2)) (len := 1) (pc' := 26) (q := 2) rfl rfl rfl (by decide) (fun lv1 hlv => ?_)
      have e0 := xs1_A hlv e0 rfl rfl
      have e1 := xs1_B hlv e1 rfl rfl
      have e2 := xs1_N hlv
      clear hlv
      refine y_next (pc' := 27) (xst_of (i := (.aload_n 0)) (len := 1) rfl rfl (x_aloadV (xisV_r _) e0)) ?_
      refine y_next (pc' := 28) (xst_of (i := (.iload_n 1)) (len := 1) rfl rfl (x_ilo e1)) ?_
      refine z_pI (t := (10, 0, 0)) (k := 35) rfl rfl rfl rfl rfl R (rc_10 R) (fun h Y2 hY R => ?_)
      replace H := H Y2 hY
      clear hY
      refine y_next (pc' := 32) (xst_of (i := (.iload_n 2)) (len := 1) rfl rfl (x_ilo e2)) ?_
      exact y_ret (xst_of (i := .ireturn) (len := 1) rfl rfl rfl) ⟨_, _, rfl, R, H⟩
    · replace H := H.2 hc
      refine y_next (pc' := 16) (xst_of (i := (.if_icmp .le 8)) (len := 3) rfl rfl (xf_icmp_le (t := 21) rfl hc)) ?_
      exact H _ _ R e0 e1
theorem l_174_16 {V : xV} {g : xG} {Y : xW} {l1 : Int32} {Q : Int32 → xW → Prop} (H : L_125_0 V g Y  (fun x2 Y1 => Q x2 Y1)) : L_174_16 V g Y l1 Q := by
  intro h lv R e0 e1
  refine y_next (pc' := 17) (xst_of (i := (.aload_n 0)) (len := 1) rfl rfl (x_aloadV (xisV_r _) e0)) ?_
  refine z_cI (k := 125) (i := (.invokevirtual 292)) (as := [.ref (g.2 (10, 0, 0) 0)]) (rest := []) rfl rfl (x_callv rfl rfl (rc_ob R (rc_10 R) rfl) rfl rfl) (H _ _ R rfl) (fun x2 h Y1 R H => ?_)
  exact y_ret (xst_of (i := .ireturn) (len := 1) rfl rfl rfl) ⟨_, _, rfl, R, H⟩
theorem l_175_0 {V : xV} {g : xG} {Y : xW} {l1 : Int32} {Q : Int32 → xW → Prop} (H : L_175_4 V g Y l1 (-1) 0 Q) : L_175_0 V g Y l1 Q := by
  intro h lv R e0 e1
  refine y_next (pc' := 1) (xst_of (i := (.iconst (-1))) (len := 1) rfl rfl (x_ico (v := (-1)) (by decide))) ?_
  refine z_is (i := (.istore_n 2)) (len := 1) (pc' := 2) (q := 2) rfl rfl rfl (by decide) (fun lv1 hlv => ?_)
  have e0 := xs1_A hlv e0 rfl rfl
  have e1 := xs1_B hlv e1 rfl rfl
  have e2 := xs1_N hlv
  clear hlv
  refine y_next (pc' := 3) (xst_of (i := (.iconst 0)) (len := 1) rfl rfl (x_ico (v := 0) (by decide))) ?_
  refine z_is (i := (.istore_n 3)) (len := 1) (pc' := 4) (q := 3) rfl rfl rfl (by decide) (fun lv2 hlv => ?_)
  have e0 := xs1_A hlv e0 rfl rfl
  have e1 := xs1_A hlv e1 rfl rfl
  have e2 := xs1_B hlv e2 rfl rfl
  have e3 := xs1_N hlv
  clear hlv
  exact H _ _ R e0 e1 e2 e3
theorem l_175_4 {V : xV} {g : xG} {Y : xW} {l1 : Int32} {l2 : Int32} {l3 : Int32} {Q : Int32 → xW → Prop} (H : (((fI Y (10, 0, 0) 32) ≤ l3) → Q l2 Y) ∧ (¬ ((fI Y (10, 0, 0) 32) ≤ l3) → vp_in l3 40 ∧ (((fA Y (10, 0, 0) 49 (Int32.toNatClampNeg l3)) = l1) → L_175_24 V g Y l1 l3 l3 Q) ∧ (¬ ((fA Y (10, 0, 0) 49 (Int32.toNatClampNeg l3)) = l1) → L_175_24 V g Y l1 l2 l3 Q))) : L_175_4 V g Y l1 l2 l3 Q := by
  intro h lv R e0 e1 e2 e3
  refine y_next (pc' := 5) (xst_of (i := (.iload_n 3)) (len := 1) rfl rfl (x_ilo e3)) ?_
  refine y_next (pc' := 6) (xst_of (i := (.aload_n 0)) (len := 1) rfl rfl (x_aloadV (xisV_r _) e0)) ?_
  refine z_gI (t := (10, 0, 0)) (k := 32) rfl rfl rfl R (rc_10 R) ?_
  by_cases hc : (fI Y (10, 0, 0) 32) ≤ l3
  · replace H := H.1 hc
    refine y_next (xst_of (i := (.if_icmp .ge 21)) (len := 3) rfl rfl (xt_icmp_ge (t := 30) rfl hc)) ?_
    refine y_next (pc' := 31) (xst_of (i := (.iload_n 2)) (len := 1) rfl rfl (x_ilo e2)) ?_
    exact y_ret (xst_of (i := .ireturn) (len := 1) rfl rfl rfl) ⟨_, _, rfl, R, H⟩
  · replace H := H.2 hc
    refine y_next (pc' := 12) (xst_of (i := (.if_icmp .ge 21)) (len := 3) rfl rfl (xf_icmp_ge (t := 30) rfl hc)) ?_
    refine y_next (pc' := 13) (xst_of (i := (.aload_n 0)) (len := 1) rfl rfl (x_aloadV (xisV_r _) e0)) ?_
    refine z_gA (t := (10, 0, 0)) (k := 49) rfl rfl rfl R (rc_10 R) ?_
    refine y_next (pc' := 17) (xst_of (i := (.iload_n 3)) (len := 1) rfl rfl (x_ilo e3)) ?_
    refine z_aI (t := (10, 0, 0)) (k := 49) (n := 40) (i := l3) rfl rfl R (rc_10 R) H.1 ?_
    replace H := H.2
    refine y_next (pc' := 19) (xst_of (i := (.iload_n 1)) (len := 1) rfl rfl (x_ilo e1)) ?_
    by_cases hc : (fA Y (10, 0, 0) 49 (Int32.toNatClampNeg l3)) = l1
    · replace H := H.1 hc
      refine y_next (pc' := 22) (xst_of (i := (.if_icmp .ne 5)) (len := 3) rfl rfl (xf_icmp_ne (t := 24) rfl (fun z => z hc))) ?_
      refine y_next (pc' := 23) (xst_of (i := (.iload_n 3)) (len := 1) rfl rfl (x_ilo e3)) ?_
      refine z_is (i := (.istore_n 2)) (len := 1) (pc' := 24) (q := 2) rfl rfl rfl (by decide) (fun lv1 hlv => ?_)
      have e0 := xs1_A hlv e0 rfl rfl
      have e1 := xs1_B hlv e1 rfl rfl
      have e3 := xs1_A hlv e3 rfl rfl
      have e2 := xs1_N hlv
      clear hlv
      exact H _ _ R e0 e1 e2 e3
    · replace H := H.2 hc
      refine y_next (xst_of (i := (.if_icmp .ne 5)) (len := 3) rfl rfl (xt_icmp_ne (t := 24) rfl hc)) ?_
      exact H _ _ R e0 e1 e2 e3
theorem l_175_24 {V : xV} {g : xG} {Y : xW} {l1 : Int32} {l2 : Int32} {l3 : Int32} {Q : Int32 → xW → Prop} (H : L_175_4 V g Y l1 l2 (l3 + 1) Q) : L_175_24 V g Y l1 l2 l3 Q := by
  intro h lv R e0 e1 e2 e3
  refine z_in (q := 3) (n := 1) (v := 1) rfl e3 (by decide) (by decide) (fun lv1 hlv => ?_)
  have e0 := xs1_A hlv e0 rfl rfl
  have e1 := xs1_A hlv e1 rfl rfl
  have e2 := xs1_B hlv e2 rfl rfl
  have e3 := xs1_N hlv
  clear hlv
  refine y_next (pc' := 4) (xst_of (i := (.goto (-23))) (len := 3) rfl rfl rfl) ?_
  exact H _ _ R e0 e1 e2 e3
theorem l_176_0 {V : xV} {g : xG} {Y : xW} {l1 : Int32} {Q : Int32 → xW → Prop} (H : ((l1 < 0) → L_176_16 V g Y l1 Q) ∧ (¬ (l1 < 0) → (((fI Y (10, 0, 0) 31) ≤ l1) → L_176_16 V g Y l1 Q) ∧ (¬ ((fI Y (10, 0, 0) 31) ≤ l1) → L_176_17 V g Y l1 1 Q))) : L_176_0 V g Y l1 Q := by
  intro h lv R e0 e1
  refine y_next (pc' := 1) (xst_of (i := (.iload_n 1)) (len := 1) rfl rfl (x_ilo e1)) ?_
  by_cases hc : l1 < 0
  · replace H := H.1 hc
    refine y_next (xst_of (i := (.ifCond .lt 15)) (len := 3) rfl rfl (xt_if_lt (t := 16) rfl hc)) ?_
    exact H _ _ R e0 e1
  · replace H := H.2 hc
    refine y_next (pc' := 4) (xst_of (i := (.ifCond .lt 15)) (len := 3) rfl rfl (xf_if_lt (t := 16) rfl hc)) ?_
    refine y_next (pc' := 5) (xst_of (i := (.iload_n 1)) (len := 1) rfl rfl (x_ilo e1)) ?_
    refine y_next (pc' := 6) (xst_of (i := (.aload_n 0)) (len := 1) rfl rfl (x_aloadV (xisV_r _) e0)) ?_
    refine z_gI (t := (10, 0, 0)) (k := 31) rfl rfl rfl R (rc_10 R) ?_
    by_cases hc : (fI Y (10, 0, 0) 31) ≤ l1
    · replace H := H.1 hc
      refine y_next (xst_of (i := (.if_icmp .ge 7)) (len := 3) rfl rfl (xt_icmp_ge (t := 16) rfl hc)) ?_
      exact H _ _ R e0 e1
    · replace H := H.2 hc
      refine y_next (pc' := 12) (xst_of (i := (.if_icmp .ge 7)) (len := 3) rfl rfl (xf_icmp_ge (t := 16) rfl hc)) ?_
      refine y_next (pc' := 13) (xst_of (i := (.iconst 1)) (len := 1) rfl rfl (x_ico (v := 1) (by decide))) ?_
      refine y_next (pc' := 17) (xst_of (i := (.goto 4)) (len := 3) rfl rfl rfl) ?_
      exact H _ _ R e0 e1
theorem l_176_16 {V : xV} {g : xG} {Y : xW} {l1 : Int32} {Q : Int32 → xW → Prop} (H : L_176_17 V g Y l1 0 Q) : L_176_16 V g Y l1 Q := by
  intro h lv R e0 e1
  refine y_next (pc' := 17) (xst_of (i := (.iconst 0)) (len := 1) rfl rfl (x_ico (v := 0) (by decide))) ?_
  exact H _ _ R e0 e1
theorem l_176_17 {V : xV} {g : xG} {Y : xW} {l1 : Int32} {s0 : Int32} {Q : Int32 → xW → Prop} (H : (s0 = 0 ∨ s0 = 1) ∧ Q s0 Y) : L_176_17 V g Y l1 s0 Q := by
  intro h lv R e0 e1
  exact y_ret (xst_of (i := .ireturn) (len := 1) rfl rfl (x_zret rfl H.1)) ⟨_, _, rfl, R, H.2⟩
theorem l_177_0 {V : xV} {g : xG} {Y : xW} {l1 : Int32} {Q : Int32 → xW → Prop} (H : ∀ Y1, Y1 = uI Y (10, 0, 0) 2 0 → L_176_0 V g Y1 l1 (fun x3 Y2 => ((x3 = 0) → L_177_22 V g Y2 l1 Q) ∧ (¬ (x3 = 0) → vp_in l1 300 ∧ (((fA Y2 (10, 0, 0) 36 (Int32.toNatClampNeg l1)) = 0) → L_166_0 V g Y2 l1 2 (fun Y4 => L_175_0 V g Y4 l1 (fun x6 Y5 => L_167_0 V g Y5 x6 (fun Y7 => ((1 : Int32) = 0 ∨ (1 : Int32) = 1) ∧ Q 1 Y7)))) ∧ (¬ ((fA Y2 (10, 0, 0) 36 (Int32.toNatClampNeg l1)) = 0) → L_177_22 V g Y2 l1 Q)))) : L_177_0 V g Y l1 Q := by
  intro h lv R e0 e1
  refine y_next (pc' := 1) (xst_of (i := (.aload_n 0)) (len := 1) rfl rfl (x_aloadV (xisV_r _) e0)) ?_
  refine y_next (pc' := 2) (xst_of (i := (.iconst 0)) (len := 1) rfl rfl (x_ico (v := 0) (by decide))) ?_
  refine z_pI (t := (10, 0, 0)) (k := 2) rfl rfl rfl rfl rfl R (rc_10 R) (fun h Y1 hY R => ?_)
  replace H := H Y1 hY
  clear hY
  refine y_next (pc' := 6) (xst_of (i := (.aload_n 0)) (len := 1) rfl rfl (x_aloadV (xisV_r _) e0)) ?_
  refine y_next (pc' := 7) (xst_of (i := (.iload_n 1)) (len := 1) rfl rfl (x_ilo e1)) ?_
  refine z_cI (k := 176) (i := (.invokevirtual 331)) (as := [.ref (g.2 (10, 0, 0) 0), .int l1]) (rest := []) rfl rfl (x_callv rfl rfl (rc_ob R (rc_10 R) rfl) rfl rfl) (H _ _ R rfl rfl) (fun x3 h Y2 R H => ?_)
  by_cases hc : x3 = 0
  · replace H := H.1 hc
    refine y_next (xst_of (i := (.ifCond .eq 12)) (len := 3) rfl rfl (xt_if_eq (t := 22) rfl hc)) ?_
    exact H _ _ R e0 e1
  · replace H := H.2 hc
    refine y_next (pc' := 13) (xst_of (i := (.ifCond .eq 12)) (len := 3) rfl rfl (xf_if_eq (t := 22) rfl hc)) ?_
    refine y_next (pc' := 14) (xst_of (i := (.aload_n 0)) (len := 1) rfl rfl (x_aloadV (xisV_r _) e0)) ?_
    refine z_gA (t := (10, 0, 0)) (k := 36) rfl rfl rfl R (rc_10 R) ?_
    refine y_next (pc' := 18) (xst_of (i := (.iload_n 1)) (len := 1) rfl rfl (x_ilo e1)) ?_
    refine z_aI (t := (10, 0, 0)) (k := 36) (n := 300) (i := l1) rfl rfl R (rc_10 R) H.1 ?_
    replace H := H.2
    by_cases hc : (fA Y2 (10, 0, 0) 36 (Int32.toNatClampNeg l1)) = 0
    · replace H := H.1 hc
      refine y_next (xst_of (i := (.ifCond .eq 5)) (len := 3) rfl rfl (xt_if_eq (t := 24) rfl hc)) ?_
      refine y_next (pc' := 25) (xst_of (i := (.aload_n 0)) (len := 1) rfl rfl (x_aloadV (xisV_r _) e0)) ?_
      refine y_next (pc' := 26) (xst_of (i := (.iload_n 1)) (len := 1) rfl rfl (x_ilo e1)) ?_
      refine y_next (pc' := 27) (xst_of (i := (.iconst 2)) (len := 1) rfl rfl (x_ico (v := 2) (by decide))) ?_
      refine z_cN (k := 166) (i := (.invokevirtual 315)) (as := [.ref (g.2 (10, 0, 0) 0), .int l1, .int 2]) (rest := []) rfl rfl (x_callv rfl rfl (rc_ob R (rc_10 R) rfl) rfl rfl) (H _ _ R rfl rfl rfl) (fun h Y4 R H => ?_)
      refine y_next (pc' := 31) (xst_of (i := (.aload_n 0)) (len := 1) rfl rfl (x_aloadV (xisV_r _) e0)) ?_
      refine y_next (pc' := 32) (xst_of (i := (.aload_n 0)) (len := 1) rfl rfl (x_aloadV (xisV_r _) e0)) ?_
      refine y_next (pc' := 33) (xst_of (i := (.iload_n 1)) (len := 1) rfl rfl (x_ilo e1)) ?_
      refine z_cI (k := 175) (i := (.invokevirtual 334)) (as := [.ref (g.2 (10, 0, 0) 0), .int l1]) (rest := [.ref (g.2 (10, 0, 0) 0)]) rfl rfl (x_callv rfl rfl (rc_ob R (rc_10 R) rfl) rfl rfl) (H _ _ R rfl rfl) (fun x6 h Y5 R H => ?_)
      refine z_cN (k := 167) (i := (.invokevirtual 318)) (as := [.ref (g.2 (10, 0, 0) 0), .int x6]) (rest := []) rfl rfl (x_callv rfl rfl (rc_ob R (rc_10 R) rfl) rfl rfl) (H _ _ R rfl rfl) (fun h Y7 R H => ?_)
      refine y_next (pc' := 40) (xst_of (i := (.iconst 1)) (len := 1) rfl rfl (x_ico (v := 1) (by decide))) ?_
      exact y_ret (xst_of (i := .ireturn) (len := 1) rfl rfl (x_zret rfl H.1)) ⟨_, _, rfl, R, H.2⟩
    · replace H := H.2 hc
      refine y_next (pc' := 22) (xst_of (i := (.ifCond .eq 5)) (len := 3) rfl rfl (xf_if_eq (t := 24) rfl hc)) ?_
      exact H _ _ R e0 e1
theorem l_177_22 {V : xV} {g : xG} {Y : xW} {l1 : Int32} {Q : Int32 → xW → Prop} (H : ((0 : Int32) = 0 ∨ (0 : Int32) = 1) ∧ Q 0 Y) : L_177_22 V g Y l1 Q := by
  intro h lv R e0 e1
  refine y_next (pc' := 23) (xst_of (i := (.iconst 0)) (len := 1) rfl rfl (x_ico (v := 0) (by decide))) ?_
  exact y_ret (xst_of (i := .ireturn) (len := 1) rfl rfl (x_zret rfl H.1)) ⟨_, _, rfl, R, H.2⟩
theorem l_178_0 {V : xV} {g : xG} {Y : xW} {l1 : Int32} {l2 : Int32} {Q : Int32 → xW → Prop} (H : ∀ Y1, Y1 = uI Y (10, 0, 0) 2 0 → L_176_0 V g Y1 l1 (fun x3 Y2 => ((x3 = 0) → L_125_0 V g Y2  (fun x5 Y4 => Q x5 Y4)) ∧ (¬ (x3 = 0) → ((l2 = 0 → vp_in l1 300 ∧ Q (fA Y2 (10, 0, 0) 36 (Int32.toNatClampNeg l1)) Y2) ∧ (l2 = 1 → vp_in l1 300 ∧ Q (fA Y2 (10, 0, 0) 37 (Int32.toNatClampNeg l1)) Y2) ∧ (l2 = 2 → vp_in l1 300 ∧ vp_in l1 300 ∧ Q ((1000 * (fA Y2 (10, 0, 0) 38 (Int32.toNatClampNeg l1))) + (fA Y2 (10, 0, 0) 39 (Int32.toNatClampNeg l1))) Y2) ∧ (l2 = 3 → vp_in l1 300 ∧ Q (fA Y2 (10, 0, 0) 40 (Int32.toNatClampNeg l1)) Y2) ∧ (l2 = 4 → vp_in l1 300 ∧ Q (fA Y2 (10, 0, 0) 41 (Int32.toNatClampNeg l1)) Y2) ∧ (l2 = 5 → vp_in l1 300 ∧ Q (fA Y2 (10, 0, 0) 42 (Int32.toNatClampNeg l1)) Y2) ∧ (l2 = 6 → vp_in l1 300 ∧ Q (fA Y2 (10, 0, 0) 43 (Int32.toNatClampNeg l1)) Y2) ∧ (l2 = 7 → vp_in l1 300 ∧ (((fA Y2 (10, 0, 0) 36 (Int32.toNatClampNeg l1)) = 0) → L_175_0 V g Y2 l1 (fun x9 Y8 => L_178_146 V g Y8 l1 l2 x9 Q)) ∧ (¬ ((fA Y2 (10, 0, 0) 36 (Int32.toNatClampNeg l1)) = 0) → L_178_146 V g Y2 l1 l2 (-1) Q)) ∧ (l2 = 8 → vp_in l1 300 ∧ Q (fA Y2 (10, 0, 0) 44 (Int32.toNatClampNeg l1)) Y2)) ∧ ((Int32.toInt l2 < 0 ∨ 8 < Int32.toInt l2) → L_125_0 V g Y2  (fun x7 Y6 => Q x7 Y6))))) : L_178_0 V g Y l1 l2 Q := by
  intro h lv R e0 e1 e2
  refine y_next (pc' := 1) (xst_of (i := (.aload_n 0)) (len := 1) rfl rfl (x_aloadV (xisV_r _) e0)) ?_
  refine y_next (pc' := 2) (xst_of (i := (.iconst 0)) (len := 1) rfl rfl (x_ico (v := 0) (by decide))) ?_
  refine z_pI (t := (10, 0, 0)) (k := 2) rfl rfl rfl rfl rfl R (rc_10 R) (fun h Y1 hY R => ?_)
  replace H := H Y1 hY
  clear hY
  refine y_next (pc' := 6) (xst_of (i := (.aload_n 0)) (len := 1) rfl rfl (x_aloadV (xisV_r _) e0)) ?_
  refine y_next (pc' := 7) (xst_of (i := (.iload_n 1)) (len := 1) rfl rfl (x_ilo e1)) ?_
  refine z_cI (k := 176) (i := (.invokevirtual 331)) (as := [.ref (g.2 (10, 0, 0) 0), .int l1]) (rest := []) rfl rfl (x_callv rfl rfl (rc_ob R (rc_10 R) rfl) rfl rfl) (H _ _ R rfl rfl) (fun x3 h Y2 R H => ?_)
  by_cases hc : x3 = 0
  · replace H := H.1 hc
    refine y_next (pc' := 13) (xst_of (i := (.ifCond .ne 8)) (len := 3) rfl rfl (xf_if_ne (t := 18) rfl (fun z => z hc))) ?_
    refine y_next (pc' := 14) (xst_of (i := (.aload_n 0)) (len := 1) rfl rfl (x_aloadV (xisV_r _) e0)) ?_
    refine z_cI (k := 125) (i := (.invokevirtual 292)) (as := [.ref (g.2 (10, 0, 0) 0)]) (rest := []) rfl rfl (x_callv rfl rfl (rc_ob R (rc_10 R) rfl) rfl rfl) (H _ _ R rfl) (fun x5 h Y4 R H => ?_)
    exact y_ret (xst_of (i := .ireturn) (len := 1) rfl rfl rfl) ⟨_, _, rfl, R, H⟩
  · replace H := H.2 hc
    refine y_next (xst_of (i := (.ifCond .ne 8)) (len := 3) rfl rfl (xt_if_ne (t := 18) rfl hc)) ?_
    refine y_next (pc' := 19) (xst_of (i := (.iload_n 2)) (len := 1) rfl rfl (x_ilo e2)) ?_
    by_cases hx : Int32.toInt l2 < 0 ∨ 8 < Int32.toInt l2
    · replace H := H.2 hx
      refine y_next (xst_of (i := (.tableswitch 135 0 8 #[49, 56, 63, 81, 88, 95, 102, 109, 128])) (len := 49) rfl rfl (x_sw_out (t := 154) hx rfl)) ?_
      refine y_next (pc' := 155) (xst_of (i := (.aload_n 0)) (len := 1) rfl rfl (x_aloadV (xisV_r _) e0)) ?_
      refine z_cI (k := 125) (i := (.invokevirtual 292)) (as := [.ref (g.2 (10, 0, 0) 0)]) (rest := []) rfl rfl (x_callv rfl rfl (rc_ob R (rc_10 R) rfl) rfl rfl) (H _ _ R rfl) (fun x7 h Y6 R H => ?_)
      exact y_ret (xst_of (i := .ireturn) (len := 1) rfl rfl rfl) ⟨_, _, rfl, R, H⟩
    · replace H := H.1
      have hy : Int32.toInt l2 = 0 ∨ Int32.toInt l2 = 1 ∨ Int32.toInt l2 = 2 ∨ Int32.toInt l2 = 3 ∨ Int32.toInt l2 = 4 ∨ Int32.toInt l2 = 5 ∨ Int32.toInt l2 = 6 ∨ Int32.toInt l2 = 7 ∨ Int32.toInt l2 = 8 := by omega
      rcases hy with hy | hy | hy | hy | hy | hy | hy | hy | hy
      · replace H := H.1
        have hz : l2 = 0 := Int32.toInt_inj.mp (hy.trans rfl)
        replace H := H hz
        refine y_next (xst_of (i := (.tableswitch 135 0 8 #[49, 56, 63, 81, 88, 95, 102, 109, 128])) (len := 49) rfl rfl (x_sw_in (t := 68) hx (by rw [hy]; rfl) rfl)) ?_
        refine y_next (pc' := 69) (xst_of (i := (.aload_n 0)) (len := 1) rfl rfl (x_aloadV (xisV_r _) e0)) ?_
        refine z_gA (t := (10, 0, 0)) (k := 36) rfl rfl rfl R (rc_10 R) ?_
        refine y_next (pc' := 73) (xst_of (i := (.iload_n 1)) (len := 1) rfl rfl (x_ilo e1)) ?_
        refine z_aI (t := (10, 0, 0)) (k := 36) (n := 300) (i := l1) rfl rfl R (rc_10 R) H.1 ?_
        replace H := H.2
        exact y_ret (xst_of (i := .ireturn) (len := 1) rfl rfl rfl) ⟨_, _, rfl, R, H⟩
      · replace H := H.2.1
        have hz : l2 = 1 := Int32.toInt_inj.mp (hy.trans rfl)
        replace H := H hz
        refine y_next (xst_of (i := (.tableswitch 135 0 8 #[49, 56, 63, 81, 88, 95, 102, 109, 128])) (len := 49) rfl rfl (x_sw_in (t := 75) hx (by rw [hy]; rfl) rfl)) ?_
        refine y_next (pc' := 76) (xst_of (i := (.aload_n 0)) (len := 1) rfl rfl (x_aloadV (xisV_r _) e0)) ?_
        refine z_gA (t := (10, 0, 0)) (k := 37) rfl rfl rfl R (rc_10 R) ?_
        refine y_next (pc' := 80) (xst_of (i := (.iload_n 1)) (len := 1) rfl rfl (x_ilo e1)) ?_
        refine z_aI (t := (10, 0, 0)) (k := 37) (n := 300) (i := l1) rfl rfl R (rc_10 R) H.1 ?_
        replace H := H.2
        exact y_ret (xst_of (i := .ireturn) (len := 1) rfl rfl rfl) ⟨_, _, rfl, R, H⟩
      · replace H := H.2.2.1
        have hz : l2 = 2 := Int32.toInt_inj.mp (hy.trans rfl)
        replace H := H hz
        refine y_next (xst_of (i := (.tableswitch 135 0 8 #[49, 56, 63, 81, 88, 95, 102, 109, 128])) (len := 49) rfl rfl (x_sw_in (t := 82) hx (by rw [hy]; rfl) rfl)) ?_
        refine y_next (pc' := 85) (xst_of (i := (.sipush 1000)) (len := 3) rfl rfl (x_sip (v := 1000) (by decide))) ?_
        refine y_next (pc' := 86) (xst_of (i := (.aload_n 0)) (len := 1) rfl rfl (x_aloadV (xisV_r _) e0)) ?_
        refine z_gA (t := (10, 0, 0)) (k := 38) rfl rfl rfl R (rc_10 R) ?_
        refine y_next (pc' := 90) (xst_of (i := (.iload_n 1)) (len := 1) rfl rfl (x_ilo e1)) ?_
        refine z_aI (t := (10, 0, 0)) (k := 38) (n := 300) (i := l1) rfl rfl R (rc_10 R) H.1 ?_
        replace H := H.2
        refine y_next (pc' := 92) (xst_of (i := .imul) (len := 1) rfl rfl rfl) ?_
        refine y_next (pc' := 93) (xst_of (i := (.aload_n 0)) (len := 1) rfl rfl (x_aloadV (xisV_r _) e0)) ?_
        refine z_gA (t := (10, 0, 0)) (k := 39) rfl rfl rfl R (rc_10 R) ?_
        refine y_next (pc' := 97) (xst_of (i := (.iload_n 1)) (len := 1) rfl rfl (x_ilo e1)) ?_
        refine z_aI (t := (10, 0, 0)) (k := 39) (n := 300) (i := l1) rfl rfl R (rc_10 R) H.1 ?_
        replace H := H.2
        refine y_next (pc' := 99) (xst_of (i := .iadd) (len := 1) rfl rfl rfl) ?_
        exact y_ret (xst_of (i := .ireturn) (len := 1) rfl rfl rfl) ⟨_, _, rfl, R, H⟩
      · replace H := H.2.2.2.1
        have hz : l2 = 3 := Int32.toInt_inj.mp (hy.trans rfl)
        replace H := H hz
        refine y_next (xst_of (i := (.tableswitch 135 0 8 #[49, 56, 63, 81, 88, 95, 102, 109, 128])) (len := 49) rfl rfl (x_sw_in (t := 100) hx (by rw [hy]; rfl) rfl)) ?_
        refine y_next (pc' := 101) (xst_of (i := (.aload_n 0)) (len := 1) rfl rfl (x_aloadV (xisV_r _) e0)) ?_
        refine z_gA (t := (10, 0, 0)) (k := 40) rfl rfl rfl R (rc_10 R) ?_
        refine y_next (pc' := 105) (xst_of (i := (.iload_n 1)) (len := 1) rfl rfl (x_ilo e1)) ?_
        refine z_aI (t := (10, 0, 0)) (k := 40) (n := 300) (i := l1) rfl rfl R (rc_10 R) H.1 ?_
        replace H := H.2
        exact y_ret (xst_of (i := .ireturn) (len := 1) rfl rfl rfl) ⟨_, _, rfl, R, H⟩
      · replace H := H.2.2.2.2.1
        have hz : l2 = 4 := Int32.toInt_inj.mp (hy.trans rfl)
        replace H := H hz
        refine y_next (xst_of (i := (.tableswitch 135 0 8 #[49, 56, 63, 81, 88, 95, 102, 109, 128])) (len := 49) rfl rfl (x_sw_in (t := 107) hx (by rw [hy]; rfl) rfl)) ?_
        refine y_next (pc' := 108) (xst_of (i := (.aload_n 0)) (len := 1) rfl rfl (x_aloadV (xisV_r _) e0)) ?_
        refine z_gA (t := (10, 0, 0)) (k := 41) rfl rfl rfl R (rc_10 R) ?_
        refine y_next (pc' := 112) (xst_of (i := (.iload_n 1)) (len := 1) rfl rfl (x_ilo e1)) ?_
        refine z_aI (t := (10, 0, 0)) (k := 41) (n := 300) (i := l1) rfl rfl R (rc_10 R) H.1 ?_
        replace H := H.2
        exact y_ret (xst_of (i := .ireturn) (len := 1) rfl rfl rfl) ⟨_, _, rfl, R, H⟩
      · replace H := H.2.2.2.2.2.1
        have hz : l2 = 5 := Int32.toInt_inj.mp (hy.trans rfl)
        replace H := H hz
        refine y_next (xst_of (i := (.tableswitch 135 0 8 #[49, 56, 63, 81, 88, 95, 102, 109, 128])) (len := 49) rfl rfl (x_sw_in (t := 114) hx (by rw [hy]; rfl) rfl)) ?_
        refine y_next (pc' := 115) (xst_of (i := (.aload_n 0)) (len := 1) rfl rfl (x_aloadV (xisV_r _) e0)) ?_
        refine z_gA (t := (10, 0, 0)) (k := 42) rfl rfl rfl R (rc_10 R) ?_
        refine y_next (pc' := 119) (xst_of (i := (.iload_n 1)) (len := 1) rfl rfl (x_ilo e1)) ?_
        refine z_aI (t := (10, 0, 0)) (k := 42) (n := 300) (i := l1) rfl rfl R (rc_10 R) H.1 ?_
        replace H := H.2
        exact y_ret (xst_of (i := .ireturn) (len := 1) rfl rfl rfl) ⟨_, _, rfl, R, H⟩
      · replace H := H.2.2.2.2.2.2.1
        have hz : l2 = 6 := Int32.toInt_inj.mp (hy.trans rfl)
        replace H := H hz
        refine y_next (xst_of (i := (.tableswitch 135 0 8 #[49, 56, 63, 81, 88, 95, 102, 109, 128])) (len := 49) rfl rfl (x_sw_in (t := 121) hx (by rw [hy]; rfl) rfl)) ?_
        refine y_next (pc' := 122) (xst_of (i := (.aload_n 0)) (len := 1) rfl rfl (x_aloadV (xisV_r _) e0)) ?_
        refine z_gA (t := (10, 0, 0)) (k := 43) rfl rfl rfl R (rc_10 R) ?_
        refine y_next (pc' := 126) (xst_of (i := (.iload_n 1)) (len := 1) rfl rfl (x_ilo e1)) ?_
        refine z_aI (t := (10, 0, 0)) (k := 43) (n := 300) (i := l1) rfl rfl R (rc_10 R) H.1 ?_
        replace H := H.2
        exact y_ret (xst_of (i := .ireturn) (len := 1) rfl rfl rfl) ⟨_, _, rfl, R, H⟩
      · replace H := H.2.2.2.2.2.2.2.1
        have hz : l2 = 7 := Int32.toInt_inj.mp (hy.trans rfl)
        replace H := H hz
        refine y_next (xst_of (i := (.tableswitch 135 0 8 #[49, 56, 63, 81, 88, 95, 102, 109, 128])) (len := 49) rfl rfl (x_sw_in (t := 128) hx (by rw [hy]; rfl) rfl)) ?_
        refine y_next (pc' := 129) (xst_of (i := (.aload_n 0)) (len := 1) rfl rfl (x_aloadV (xisV_r _) e0)) ?_
        refine z_gA (t := (10, 0, 0)) (k := 36) rfl rfl rfl R (rc_10 R) ?_
        refine y_next (pc' := 133) (xst_of (i := (.iload_n 1)) (len := 1) rfl rfl (x_ilo e1)) ?_
        refine z_aI (t := (10, 0, 0)) (k := 36) (n := 300) (i := l1) rfl rfl R (rc_10 R) H.1 ?_
        replace H := H.2
        by_cases hc : (fA Y2 (10, 0, 0) 36 (Int32.toNatClampNeg l1)) = 0
        · replace H := H.1 hc
          refine y_next (pc' := 137) (xst_of (i := (.ifCond .ne 11)) (len := 3) rfl rfl (xf_if_ne (t := 145) rfl (fun z => z hc))) ?_
          refine y_next (pc' := 138) (xst_of (i := (.aload_n 0)) (len := 1) rfl rfl (x_aloadV (xisV_r _) e0)) ?_
          refine y_next (pc' := 139) (xst_of (i := (.iload_n 1)) (len := 1) rfl rfl (x_ilo e1)) ?_
          refine z_cI (k := 175) (i := (.invokevirtual 334)) (as := [.ref (g.2 (10, 0, 0) 0), .int l1]) (rest := []) rfl rfl (x_callv rfl rfl (rc_ob R (rc_10 R) rfl) rfl rfl) (H _ _ R rfl rfl) (fun x9 h Y8 R H => ?_)
          refine y_next (pc' := 146) (xst_of (i := (.goto 4)) (len := 3) rfl rfl rfl) ?_
          exact H _ _ R e0 e1 e2
        · replace H := H.2 hc
          refine y_next (xst_of (i := (.ifCond .ne 11)) (len := 3) rfl rfl (xt_if_ne (t := 145) rfl hc)) ?_
          refine y_next (pc' := 146) (xst_of (i := (.iconst (-1))) (len := 1) rfl rfl (x_ico (v := (-1)) (by decide))) ?_
          exact H _ _ R e0 e1 e2
      · replace H := H.2.2.2.2.2.2.2.2
        have hz : l2 = 8 := Int32.toInt_inj.mp (hy.trans rfl)
        replace H := H hz
        refine y_next (xst_of (i := (.tableswitch 135 0 8 #[49, 56, 63, 81, 88, 95, 102, 109, 128])) (len := 49) rfl rfl (x_sw_in (t := 147) hx (by rw [hy]; rfl) rfl)) ?_
        refine y_next (pc' := 148) (xst_of (i := (.aload_n 0)) (len := 1) rfl rfl (x_aloadV (xisV_r _) e0)) ?_
        refine z_gA (t := (10, 0, 0)) (k := 44) rfl rfl rfl R (rc_10 R) ?_
        refine y_next (pc' := 152) (xst_of (i := (.iload_n 1)) (len := 1) rfl rfl (x_ilo e1)) ?_
        refine z_aI (t := (10, 0, 0)) (k := 44) (n := 300) (i := l1) rfl rfl R (rc_10 R) H.1 ?_
        replace H := H.2
        exact y_ret (xst_of (i := .ireturn) (len := 1) rfl rfl rfl) ⟨_, _, rfl, R, H⟩
theorem l_178_146 {V : xV} {g : xG} {Y : xW} {l1 : Int32} {l2 : Int32} {s0 : Int32} {Q : Int32 → xW → Prop} (H : Q s0 Y) : L_178_146 V g Y l1 l2 s0 Q := by
  intro h lv R e0 e1 e2
  exact y_ret (xst_of (i := .ireturn) (len := 1) rfl rfl rfl) ⟨_, _, rfl, R, H⟩
theorem l_179_0 {V : xV} {g : xG} {Y : xW} {l1 : Int32} {l2 : Int32} {Q : Int32 → xW → Prop} (H : ∀ Y1, Y1 = uI Y (10, 0, 0) 2 0 → L_176_0 V g Y1 l1 (fun x3 Y2 => ((x3 = 0) → L_179_23 V g Y2 l1 l2 Q) ∧ (¬ (x3 = 0) → ((l2 < 0) → L_179_23 V g Y2 l1 l2 Q) ∧ (¬ (l2 < 0) → ((l2 ≤ 7) → vp_in ((8 * l1) + l2) 2400 ∧ Q (fA Y2 (10, 0, 0) 45 (Int32.toNatClampNeg ((8 * l1) + l2))) Y2) ∧ (¬ (l2 ≤ 7) → L_179_23 V g Y2 l1 l2 Q))))) : L_179_0 V g Y l1 l2 Q := by
  intro h lv R e0 e1 e2
  refine y_next (pc' := 1) (xst_of (i := (.aload_n 0)) (len := 1) rfl rfl (x_aloadV (xisV_r _) e0)) ?_
  refine y_next (pc' := 2) (xst_of (i := (.iconst 0)) (len := 1) rfl rfl (x_ico (v := 0) (by decide))) ?_
  refine z_pI (t := (10, 0, 0)) (k := 2) rfl rfl rfl rfl rfl R (rc_10 R) (fun h Y1 hY R => ?_)
  replace H := H Y1 hY
  clear hY
  refine y_next (pc' := 6) (xst_of (i := (.aload_n 0)) (len := 1) rfl rfl (x_aloadV (xisV_r _) e0)) ?_
  refine y_next (pc' := 7) (xst_of (i := (.iload_n 1)) (len := 1) rfl rfl (x_ilo e1)) ?_
  refine z_cI (k := 176) (i := (.invokevirtual 331)) (as := [.ref (g.2 (10, 0, 0) 0), .int l1]) (rest := []) rfl rfl (x_callv rfl rfl (rc_ob R (rc_10 R) rfl) rfl rfl) (H _ _ R rfl rfl) (fun x3 h Y2 R H => ?_)
  by_cases hc : x3 = 0
  · replace H := H.1 hc
    refine y_next (xst_of (i := (.ifCond .eq 13)) (len := 3) rfl rfl (xt_if_eq (t := 23) rfl hc)) ?_
    exact H _ _ R e0 e1 e2
  · replace H := H.2 hc
    refine y_next (pc' := 13) (xst_of (i := (.ifCond .eq 13)) (len := 3) rfl rfl (xf_if_eq (t := 23) rfl hc)) ?_
    refine y_next (pc' := 14) (xst_of (i := (.iload_n 2)) (len := 1) rfl rfl (x_ilo e2)) ?_
    by_cases hc : l2 < 0
    · replace H := H.1 hc
      refine y_next (xst_of (i := (.ifCond .lt 9)) (len := 3) rfl rfl (xt_if_lt (t := 23) rfl hc)) ?_
      exact H _ _ R e0 e1 e2
    · replace H := H.2 hc
      refine y_next (pc' := 17) (xst_of (i := (.ifCond .lt 9)) (len := 3) rfl rfl (xf_if_lt (t := 23) rfl hc)) ?_
      refine y_next (pc' := 18) (xst_of (i := (.iload_n 2)) (len := 1) rfl rfl (x_ilo e2)) ?_
      refine y_next (pc' := 20) (xst_of (i := (.bipush 7)) (len := 2) rfl rfl (x_bip (v := 7) (by decide))) ?_
      by_cases hc : l2 ≤ 7
      · replace H := H.1 hc
        refine y_next (xst_of (i := (.if_icmp .le 8)) (len := 3) rfl rfl (xt_icmp_le (t := 28) rfl hc)) ?_
        refine y_next (pc' := 29) (xst_of (i := (.aload_n 0)) (len := 1) rfl rfl (x_aloadV (xisV_r _) e0)) ?_
        refine z_gA (t := (10, 0, 0)) (k := 45) rfl rfl rfl R (rc_10 R) ?_
        refine y_next (pc' := 34) (xst_of (i := (.bipush 8)) (len := 2) rfl rfl (x_bip (v := 8) (by decide))) ?_
        refine y_next (pc' := 35) (xst_of (i := (.iload_n 1)) (len := 1) rfl rfl (x_ilo e1)) ?_
        refine y_next (pc' := 36) (xst_of (i := .imul) (len := 1) rfl rfl rfl) ?_
        refine y_next (pc' := 37) (xst_of (i := (.iload_n 2)) (len := 1) rfl rfl (x_ilo e2)) ?_
        refine y_next (pc' := 38) (xst_of (i := .iadd) (len := 1) rfl rfl rfl) ?_
        refine z_aI (t := (10, 0, 0)) (k := 45) (n := 2400) (i := ((8 * l1) + l2)) rfl rfl R (rc_10 R) H.1 ?_
        replace H := H.2
        exact y_ret (xst_of (i := .ireturn) (len := 1) rfl rfl rfl) ⟨_, _, rfl, R, H⟩
      · replace H := H.2 hc
        refine y_next (pc' := 23) (xst_of (i := (.if_icmp .le 8)) (len := 3) rfl rfl (xf_icmp_le (t := 28) rfl hc)) ?_
        exact H _ _ R e0 e1 e2
theorem l_179_23 {V : xV} {g : xG} {Y : xW} {l1 : Int32} {l2 : Int32} {Q : Int32 → xW → Prop} (H : L_125_0 V g Y  (fun x2 Y1 => Q x2 Y1)) : L_179_23 V g Y l1 l2 Q := by
  intro h lv R e0 e1 e2
  refine y_next (pc' := 24) (xst_of (i := (.aload_n 0)) (len := 1) rfl rfl (x_aloadV (xisV_r _) e0)) ?_
  refine z_cI (k := 125) (i := (.invokevirtual 292)) (as := [.ref (g.2 (10, 0, 0) 0)]) (rest := []) rfl rfl (x_callv rfl rfl (rc_ob R (rc_10 R) rfl) rfl rfl) (H _ _ R rfl) (fun x2 h Y1 R H => ?_)
  exact y_ret (xst_of (i := .ireturn) (len := 1) rfl rfl rfl) ⟨_, _, rfl, R, H⟩
theorem l_180_0 {V : xV} {g : xG} {Y : xW} {l1 : Int32} {Q : Int64 → xW → Prop} (H : ∀ Y1, Y1 = uI Y (10, 0, 0) 2 0 → L_176_0 V g Y1 l1 (fun x3 Y2 => ((x3 = 0) → L_125_0 V g Y2  (fun x5 Y4 => Q (Int32.toInt64 x5) Y4)) ∧ (¬ (x3 = 0) → vp_in l1 300 ∧ Q (fL Y2 (10, 0, 0) 46 (Int32.toNatClampNeg l1)) Y2))) : L_180_0 V g Y l1 Q := by
  intro h lv R e0 e1
  refine y_next (pc' := 1) (xst_of (i := (.aload_n 0)) (len := 1) rfl rfl (x_aloadV (xisV_r _) e0)) ?_
  refine y_next (pc' := 2) (xst_of (i := (.iconst 0)) (len := 1) rfl rfl (x_ico (v := 0) (by decide))) ?_
  refine z_pI (t := (10, 0, 0)) (k := 2) rfl rfl rfl rfl rfl R (rc_10 R) (fun h Y1 hY R => ?_)
  replace H := H Y1 hY
  clear hY
  refine y_next (pc' := 6) (xst_of (i := (.aload_n 0)) (len := 1) rfl rfl (x_aloadV (xisV_r _) e0)) ?_
  refine y_next (pc' := 7) (xst_of (i := (.iload_n 1)) (len := 1) rfl rfl (x_ilo e1)) ?_
  refine z_cI (k := 176) (i := (.invokevirtual 331)) (as := [.ref (g.2 (10, 0, 0) 0), .int l1]) (rest := []) rfl rfl (x_callv rfl rfl (rc_ob R (rc_10 R) rfl) rfl rfl) (H _ _ R rfl rfl) (fun x3 h Y2 R H => ?_)
  by_cases hc : x3 = 0
  · replace H := H.1 hc
    refine y_next (pc' := 13) (xst_of (i := (.ifCond .ne 9)) (len := 3) rfl rfl (xf_if_ne (t := 19) rfl (fun z => z hc))) ?_
    refine y_next (pc' := 14) (xst_of (i := (.aload_n 0)) (len := 1) rfl rfl (x_aloadV (xisV_r _) e0)) ?_
    refine z_cI (k := 125) (i := (.invokevirtual 292)) (as := [.ref (g.2 (10, 0, 0) 0)]) (rest := []) rfl rfl (x_callv rfl rfl (rc_ob R (rc_10 R) rfl) rfl rfl) (H _ _ R rfl) (fun x5 h Y4 R H => ?_)
    refine y_next (pc' := 18) (xst_of (i := .i2l) (len := 1) rfl rfl rfl) ?_
    exact y_ret (xst_of (i := .lreturn) (len := 1) rfl rfl rfl) ⟨_, _, rfl, R, H⟩
  · replace H := H.2 hc
    refine y_next (xst_of (i := (.ifCond .ne 9)) (len := 3) rfl rfl (xt_if_ne (t := 19) rfl hc)) ?_
    refine y_next (pc' := 20) (xst_of (i := (.aload_n 0)) (len := 1) rfl rfl (x_aloadV (xisV_r _) e0)) ?_
    refine z_gA (t := (10, 0, 0)) (k := 46) rfl rfl rfl R (rc_10 R) ?_
    refine y_next (pc' := 24) (xst_of (i := (.iload_n 1)) (len := 1) rfl rfl (x_ilo e1)) ?_
    refine z_aL (t := (10, 0, 0)) (k := 46) (n := 300) (i := l1) rfl rfl R (rc_10 R) H.1 ?_
    replace H := H.2
    exact y_ret (xst_of (i := .lreturn) (len := 1) rfl rfl rfl) ⟨_, _, rfl, R, H⟩
theorem l_181_0 {V : xV} {g : xG} {Y : xW} {l1 : Int32} {l2 : Int32} {Q : Int32 → xW → Prop} (H : ∀ Y1, Y1 = uI Y (10, 0, 0) 2 0 → L_176_0 V g Y1 l1 (fun x3 Y2 => ((x3 = 0) → L_181_36 V g Y2 l1 l2 Q) ∧ (¬ (x3 = 0) → vp_in l1 300 ∧ (((fA Y2 (10, 0, 0) 36 (Int32.toNatClampNeg l1)) = 0) → ((l2 < 0) → L_181_36 V g Y2 l1 l2 Q) ∧ (¬ (l2 < 0) → vp_in l1 300 ∧ ((l2 < (fA Y2 (10, 0, 0) 43 (Int32.toNatClampNeg l1))) → vp_in l1 300 ∧ vp_in ((fA Y2 (10, 0, 0) 42 (Int32.toNatClampNeg l1)) + l2) 4096 ∧ Q (fA Y2 (10, 0, 0) 50 (Int32.toNatClampNeg ((fA Y2 (10, 0, 0) 42 (Int32.toNatClampNeg l1)) + l2))) Y2) ∧ (¬ (l2 < (fA Y2 (10, 0, 0) 43 (Int32.toNatClampNeg l1))) → L_181_36 V g Y2 l1 l2 Q))) ∧ (¬ ((fA Y2 (10, 0, 0) 36 (Int32.toNatClampNeg l1)) = 0) → L_181_36 V g Y2 l1 l2 Q)))) : L_181_0 V g Y l1 l2 Q := by
  intro h lv R e0 e1 e2
  refine y_next (pc' := 1) (xst_of (i := (.aload_n 0)) (len := 1) rfl rfl (x_aloadV (xisV_r _) e0)) ?_
  refine y_next (pc' := 2) (xst_of (i := (.iconst 0)) (len := 1) rfl rfl (x_ico (v := 0) (by decide))) ?_
  refine z_pI (t := (10, 0, 0)) (k := 2) rfl rfl rfl rfl rfl R (rc_10 R) (fun h Y1 hY R => ?_)
  replace H := H Y1 hY
  clear hY
  refine y_next (pc' := 6) (xst_of (i := (.aload_n 0)) (len := 1) rfl rfl (x_aloadV (xisV_r _) e0)) ?_
  refine y_next (pc' := 7) (xst_of (i := (.iload_n 1)) (len := 1) rfl rfl (x_ilo e1)) ?_
  refine z_cI (k := 176) (i := (.invokevirtual 331)) (as := [.ref (g.2 (10, 0, 0) 0), .int l1]) (rest := []) rfl rfl (x_callv rfl rfl (rc_ob R (rc_10 R) rfl) rfl rfl) (H _ _ R rfl rfl) (fun x3 h Y2 R H => ?_)
  by_cases hc : x3 = 0
  · replace H := H.1 hc
    refine y_next (xst_of (i := (.ifCond .eq 26)) (len := 3) rfl rfl (xt_if_eq (t := 36) rfl hc)) ?_
    exact H _ _ R e0 e1 e2
  · replace H := H.2 hc
    refine y_next (pc' := 13) (xst_of (i := (.ifCond .eq 26)) (len := 3) rfl rfl (xf_if_eq (t := 36) rfl hc)) ?_
    refine y_next (pc' := 14) (xst_of (i := (.aload_n 0)) (len := 1) rfl rfl (x_aloadV (xisV_r _) e0)) ?_
    refine z_gA (t := (10, 0, 0)) (k := 36) rfl rfl rfl R (rc_10 R) ?_
    refine y_next (pc' := 18) (xst_of (i := (.iload_n 1)) (len := 1) rfl rfl (x_ilo e1)) ?_
    refine z_aI (t := (10, 0, 0)) (k := 36) (n := 300) (i := l1) rfl rfl R (rc_10 R) H.1 ?_
    replace H := H.2
    by_cases hc : (fA Y2 (10, 0, 0) 36 (Int32.toNatClampNeg l1)) = 0
    · replace H := H.1 hc
      refine y_next (pc' := 22) (xst_of (i := (.ifCond .ne 17)) (len := 3) rfl rfl (xf_if_ne (t := 36) rfl (fun z => z hc))) ?_
      refine y_next (pc' := 23) (xst_of (i := (.iload_n 2)) (len := 1) rfl rfl (x_ilo e2)) ?_
      by_cases hc : l2 < 0
      · replace H := H.1 hc
        refine y_next (xst_of (i := (.ifCond .lt 13)) (len := 3) rfl rfl (xt_if_lt (t := 36) rfl hc)) ?_
        exact H _ _ R e0 e1 e2
      · replace H := H.2 hc
        refine y_next (pc' := 26) (xst_of (i := (.ifCond .lt 13)) (len := 3) rfl rfl (xf_if_lt (t := 36) rfl hc)) ?_
        refine y_next (pc' := 27) (xst_of (i := (.iload_n 2)) (len := 1) rfl rfl (x_ilo e2)) ?_
        refine y_next (pc' := 28) (xst_of (i := (.aload_n 0)) (len := 1) rfl rfl (x_aloadV (xisV_r _) e0)) ?_
        refine z_gA (t := (10, 0, 0)) (k := 43) rfl rfl rfl R (rc_10 R) ?_
        refine y_next (pc' := 32) (xst_of (i := (.iload_n 1)) (len := 1) rfl rfl (x_ilo e1)) ?_
        refine z_aI (t := (10, 0, 0)) (k := 43) (n := 300) (i := l1) rfl rfl R (rc_10 R) H.1 ?_
        replace H := H.2
        by_cases hc : l2 < (fA Y2 (10, 0, 0) 43 (Int32.toNatClampNeg l1))
        · replace H := H.1 hc
          refine y_next (xst_of (i := (.if_icmp .lt 8)) (len := 3) rfl rfl (xt_icmp_lt (t := 41) rfl hc)) ?_
          refine y_next (pc' := 42) (xst_of (i := (.aload_n 0)) (len := 1) rfl rfl (x_aloadV (xisV_r _) e0)) ?_
          refine z_gA (t := (10, 0, 0)) (k := 50) rfl rfl rfl R (rc_10 R) ?_
          refine y_next (pc' := 46) (xst_of (i := (.aload_n 0)) (len := 1) rfl rfl (x_aloadV (xisV_r _) e0)) ?_
          refine z_gA (t := (10, 0, 0)) (k := 42) rfl rfl rfl R (rc_10 R) ?_
          refine y_next (pc' := 50) (xst_of (i := (.iload_n 1)) (len := 1) rfl rfl (x_ilo e1)) ?_
          refine z_aI (t := (10, 0, 0)) (k := 42) (n := 300) (i := l1) rfl rfl R (rc_10 R) H.1 ?_
          replace H := H.2
          refine y_next (pc' := 52) (xst_of (i := (.iload_n 2)) (len := 1) rfl rfl (x_ilo e2)) ?_
          refine y_next (pc' := 53) (xst_of (i := .iadd) (len := 1) rfl rfl rfl) ?_
          refine z_aI (t := (10, 0, 0)) (k := 50) (n := 4096) (i := ((fA Y2 (10, 0, 0) 42 (Int32.toNatClampNeg l1)) + l2)) rfl rfl R (rc_10 R) H.1 ?_
          replace H := H.2
          exact y_ret (xst_of (i := .ireturn) (len := 1) rfl rfl rfl) ⟨_, _, rfl, R, H⟩
        · replace H := H.2 hc
          refine y_next (pc' := 36) (xst_of (i := (.if_icmp .lt 8)) (len := 3) rfl rfl (xf_icmp_lt (t := 41) rfl hc)) ?_
          exact H _ _ R e0 e1 e2
    · replace H := H.2 hc
      refine y_next (xst_of (i := (.ifCond .ne 17)) (len := 3) rfl rfl (xt_if_ne (t := 36) rfl hc)) ?_
      exact H _ _ R e0 e1 e2
theorem l_181_36 {V : xV} {g : xG} {Y : xW} {l1 : Int32} {l2 : Int32} {Q : Int32 → xW → Prop} (H : L_125_0 V g Y  (fun x2 Y1 => Q x2 Y1)) : L_181_36 V g Y l1 l2 Q := by
  intro h lv R e0 e1 e2
  refine y_next (pc' := 37) (xst_of (i := (.aload_n 0)) (len := 1) rfl rfl (x_aloadV (xisV_r _) e0)) ?_
  refine z_cI (k := 125) (i := (.invokevirtual 292)) (as := [.ref (g.2 (10, 0, 0) 0)]) (rest := []) rfl rfl (x_callv rfl rfl (rc_ob R (rc_10 R) rfl) rfl rfl) (H _ _ R rfl) (fun x2 h Y1 R H => ?_)
  exact y_ret (xst_of (i := .ireturn) (len := 1) rfl rfl rfl) ⟨_, _, rfl, R, H⟩
theorem l_182_0 {V : xV} {g : xG} {Y : xW} {l1 : Int32} {Q : Int32 → xW → Prop} (H : ∀ Y1, Y1 = uI Y (10, 0, 0) 2 0 → ((l1 < 0) → L_182_16 V g Y1 l1 Q) ∧ (¬ (l1 < 0) → ((l1 < 4096) → vp_in l1 4096 ∧ Q (fA Y1 (10, 0, 0) 50 (Int32.toNatClampNeg l1)) Y1) ∧ (¬ (l1 < 4096) → L_182_16 V g Y1 l1 Q))) : L_182_0 V g Y l1 Q := by
  intro h lv R e0 e1
  refine y_next (pc' := 1) (xst_of (i := (.aload_n 0)) (len := 1) rfl rfl (x_aloadV (xisV_r _) e0)) ?_
  refine y_next (pc' := 2) (xst_of (i := (.iconst 0)) (len := 1) rfl rfl (x_ico (v := 0) (by decide))) ?_
  refine z_pI (t := (10, 0, 0)) (k := 2) rfl rfl rfl rfl rfl R (rc_10 R) (fun h Y1 hY R => ?_)
  replace H := H Y1 hY
  clear hY
  refine y_next (pc' := 6) (xst_of (i := (.iload_n 1)) (len := 1) rfl rfl (x_ilo e1)) ?_
  by_cases hc : l1 < 0
  · replace H := H.1 hc
    refine y_next (xst_of (i := (.ifCond .lt 10)) (len := 3) rfl rfl (xt_if_lt (t := 16) rfl hc)) ?_
    exact H _ _ R e0 e1
  · replace H := H.2 hc
    refine y_next (pc' := 9) (xst_of (i := (.ifCond .lt 10)) (len := 3) rfl rfl (xf_if_lt (t := 16) rfl hc)) ?_
    refine y_next (pc' := 10) (xst_of (i := (.iload_n 1)) (len := 1) rfl rfl (x_ilo e1)) ?_
    refine y_next (pc' := 13) (xst_of (i := (.sipush 4096)) (len := 3) rfl rfl (x_sip (v := 4096) (by decide))) ?_
    by_cases hc : l1 < 4096
    · replace H := H.1 hc
      refine y_next (xst_of (i := (.if_icmp .lt 8)) (len := 3) rfl rfl (xt_icmp_lt (t := 21) rfl hc)) ?_
      refine y_next (pc' := 22) (xst_of (i := (.aload_n 0)) (len := 1) rfl rfl (x_aloadV (xisV_r _) e0)) ?_
      refine z_gA (t := (10, 0, 0)) (k := 50) rfl rfl rfl R (rc_10 R) ?_
      refine y_next (pc' := 26) (xst_of (i := (.iload_n 1)) (len := 1) rfl rfl (x_ilo e1)) ?_
      refine z_aI (t := (10, 0, 0)) (k := 50) (n := 4096) (i := l1) rfl rfl R (rc_10 R) H.1 ?_
      replace H := H.2
      exact y_ret (xst_of (i := .ireturn) (len := 1) rfl rfl rfl) ⟨_, _, rfl, R, H⟩
    · replace H := H.2 hc
      refine y_next (pc' := 16) (xst_of (i := (.if_icmp .lt 8)) (len := 3) rfl rfl (xf_icmp_lt (t := 21) rfl hc)) ?_
      exact H _ _ R e0 e1
theorem l_182_16 {V : xV} {g : xG} {Y : xW} {l1 : Int32} {Q : Int32 → xW → Prop} (H : L_125_0 V g Y  (fun x2 Y1 => Q x2 Y1)) : L_182_16 V g Y l1 Q := by
  intro h lv R e0 e1
  refine y_next (pc' := 17) (xst_of (i := (.aload_n 0)) (len := 1) rfl rfl (x_aloadV (xisV_r _) e0)) ?_
  refine z_cI (k := 125) (i := (.invokevirtual 292)) (as := [.ref (g.2 (10, 0, 0) 0)]) (rest := []) rfl rfl (x_callv rfl rfl (rc_ob R (rc_10 R) rfl) rfl rfl) (H _ _ R rfl) (fun x2 h Y1 R H => ?_)
  exact y_ret (xst_of (i := .ireturn) (len := 1) rfl rfl rfl) ⟨_, _, rfl, R, H⟩
theorem l_183_0 {V : xV} {g : xG} {Y : xW} {l1 : Int32} {Q : Int32 → xW → Prop} (H : ∀ Y1, Y1 = uI Y (10, 0, 0) 2 0 → L_183_18 V g Y1 l1 0 0 0 0 0 Q) : L_183_0 V g Y l1 Q := by
  intro h lv R e0 e1
  refine y_next (pc' := 1) (xst_of (i := (.aload_n 0)) (len := 1) rfl rfl (x_aloadV (xisV_r _) e0)) ?_
  refine y_next (pc' := 2) (xst_of (i := (.iconst 0)) (len := 1) rfl rfl (x_ico (v := 0) (by decide))) ?_
  refine z_pI (t := (10, 0, 0)) (k := 2) rfl rfl rfl rfl rfl R (rc_10 R) (fun h Y1 hY R => ?_)
  replace H := H Y1 hY
  clear hY
  refine y_next (pc' := 6) (xst_of (i := (.iconst 0)) (len := 1) rfl rfl (x_ico (v := 0) (by decide))) ?_
  refine z_is (i := (.istore_n 2)) (len := 1) (pc' := 7) (q := 2) rfl rfl rfl (by decide) (fun lv1 hlv => ?_)
  have e0 := xs1_A hlv e0 rfl rfl
  have e1 := xs1_B hlv e1 rfl rfl
  have e2 := xs1_N hlv
  clear hlv
  refine y_next (pc' := 8) (xst_of (i := (.iconst 0)) (len := 1) rfl rfl (x_ico (v := 0) (by decide))) ?_
  refine z_is (i := (.istore_n 3)) (len := 1) (pc' := 9) (q := 3) rfl rfl rfl (by decide) (fun lv2 hlv => ?_)
  have e0 := xs1_A hlv e0 rfl rfl
  have e1 := xs1_A hlv e1 rfl rfl
  have e2 := xs1_B hlv e2 rfl rfl
  have e3 := xs1_N hlv
  clear hlv
  refine y_next (pc' := 10) (xst_of (i := (.iconst 0)) (len := 1) rfl rfl (x_ico (v := 0) (by decide))) ?_
  refine z_is (i := (.istore 4)) (len := 2) (pc' := 12) (q := 4) rfl rfl rfl (by decide) (fun lv3 hlv => ?_)
  have e0 := xs1_A hlv e0 rfl rfl
  have e1 := xs1_A hlv e1 rfl rfl
  have e2 := xs1_A hlv e2 rfl rfl
  have e3 := xs1_B hlv e3 rfl rfl
  have e4 := xs1_N hlv
  clear hlv
  refine y_next (pc' := 13) (xst_of (i := (.iconst 0)) (len := 1) rfl rfl (x_ico (v := 0) (by decide))) ?_
  refine z_is (i := (.istore 5)) (len := 2) (pc' := 15) (q := 5) rfl rfl rfl (by decide) (fun lv4 hlv => ?_)
  have e0 := xs1_A hlv e0 rfl rfl
  have e1 := xs1_A hlv e1 rfl rfl
  have e2 := xs1_A hlv e2 rfl rfl
  have e3 := xs1_A hlv e3 rfl rfl
  have e4 := xs1_B hlv e4 rfl rfl
  have e5 := xs1_N hlv
  clear hlv
  refine y_next (pc' := 16) (xst_of (i := (.iconst 0)) (len := 1) rfl rfl (x_ico (v := 0) (by decide))) ?_
  refine z_is (i := (.istore 6)) (len := 2) (pc' := 18) (q := 6) rfl rfl rfl (by decide) (fun lv5 hlv => ?_)
  have e0 := xs1_A hlv e0 rfl rfl
  have e1 := xs1_A hlv e1 rfl rfl
  have e2 := xs1_A hlv e2 rfl rfl
  have e3 := xs1_A hlv e3 rfl rfl
  have e4 := xs1_A hlv e4 rfl rfl
  have e5 := xs1_B hlv e5 rfl rfl
  have e6 := xs1_N hlv
  clear hlv
  exact H _ _ R e0 e1 e2 e3 e4 e5 e6
theorem l_183_18 {V : xV} {g : xG} {Y : xW} {l1 : Int32} {l2 : Int32} {l3 : Int32} {l4 : Int32} {l5 : Int32} {l6 : Int32} {Q : Int32 → xW → Prop} (H : ((4096 ≤ l6) → ((l1 = 0 → Q (fI Y (10, 0, 0) 3) Y) ∧ (l1 = 1 → Q (fI Y (10, 0, 0) 4) Y) ∧ (l1 = 2 → Q (fI Y (10, 0, 0) 31) Y) ∧ (l1 = 3 → Q (fI Y (10, 0, 0) 32) Y) ∧ (l1 = 4 → Q l2 Y) ∧ (l1 = 5 → Q l3 Y) ∧ (l1 = 6 → Q l4 Y) ∧ (l1 = 7 → Q (fI Y (10, 0, 0) 34) Y) ∧ (l1 = 8 → (((fI Y (10, 0, 0) 32) = 0) → L_183_171 V g Y l1 l2 l3 l4 l5 l6 (-1) Q) ∧ (¬ ((fI Y (10, 0, 0) 32) = 0) → L_183_171 V g Y l1 l2 l3 l4 l5 l6 (fI Y (10, 0, 0) 33) Q))) ∧ ((Int32.toInt l1 < 0 ∨ 8 < Int32.toInt l1) → L_125_0 V g Y  (fun x2 Y1 => Q x2 Y1))) ∧ (¬ (4096 ≤ l6) → vp_in l6 4096 ∧ (((fA Y (10, 0, 0) 51 (Int32.toNatClampNeg l6)) = 0) → (((l5 + 1) = 1) → L_183_57 V g Y l1 (l2 + 1) (l3 + 1) l4 (l5 + 1) l6 Q) ∧ (¬ ((l5 + 1) = 1) → L_183_57 V g Y l1 (l2 + 1) l3 l4 (l5 + 1) l6 Q)) ∧ (¬ ((fA Y (10, 0, 0) 51 (Int32.toNatClampNeg l6)) = 0) → L_183_66 V g Y l1 l2 l3 l4 0 l6 Q))) : L_183_18 V g Y l1 l2 l3 l4 l5 l6 Q := by
  intro h lv R e0 e1 e2 e3 e4 e5 e6
  refine y_next (pc' := 20) (xst_of (i := (.iload 6)) (len := 2) rfl rfl (x_ilo e6)) ?_
  refine y_next (pc' := 23) (xst_of (i := (.sipush 4096)) (len := 3) rfl rfl (x_sip (v := 4096) (by decide))) ?_
  by_cases hc : 4096 ≤ l6
  · replace H := H.1 hc
    refine y_next (xst_of (i := (.if_icmp .ge 49)) (len := 3) rfl rfl (xt_icmp_ge (t := 72) rfl hc)) ?_
    refine y_next (pc' := 73) (xst_of (i := (.iload_n 1)) (len := 1) rfl rfl (x_ilo e1)) ?_
    by_cases hx : Int32.toInt l1 < 0 ∨ 8 < Int32.toInt l1
    · replace H := H.2 hx
      refine y_next (xst_of (i := (.tableswitch 99 0 8 #[51, 56, 61, 66, 71, 73, 75, 78, 83])) (len := 51) rfl rfl (x_sw_out (t := 172) hx rfl)) ?_
      refine y_next (pc' := 173) (xst_of (i := (.aload_n 0)) (len := 1) rfl rfl (x_aloadV (xisV_r _) e0)) ?_
      refine z_cI (k := 125) (i := (.invokevirtual 292)) (as := [.ref (g.2 (10, 0, 0) 0)]) (rest := []) rfl rfl (x_callv rfl rfl (rc_ob R (rc_10 R) rfl) rfl rfl) (H _ _ R rfl) (fun x2 h Y1 R H => ?_)
      exact y_ret (xst_of (i := .ireturn) (len := 1) rfl rfl rfl) ⟨_, _, rfl, R, H⟩
    · replace H := H.1
      have hy : Int32.toInt l1 = 0 ∨ Int32.toInt l1 = 1 ∨ Int32.toInt l1 = 2 ∨ Int32.toInt l1 = 3 ∨ Int32.toInt l1 = 4 ∨ Int32.toInt l1 = 5 ∨ Int32.toInt l1 = 6 ∨ Int32.toInt l1 = 7 ∨ Int32.toInt l1 = 8 := by omega
      rcases hy with hy | hy | hy | hy | hy | hy | hy | hy | hy
      · replace H := H.1
        have hz : l1 = 0 := Int32.toInt_inj.mp (hy.trans rfl)
        replace H := H hz
        refine y_next (xst_of (i := (.tableswitch 99 0 8 #[51, 56, 61, 66, 71, 73, 75, 78, 83])) (len := 51) rfl rfl (x_sw_in (t := 124) hx (by rw [hy]; rfl) rfl)) ?_
        refine y_next (pc' := 125) (xst_of (i := (.aload_n 0)) (len := 1) rfl rfl (x_aloadV (xisV_r _) e0)) ?_
        refine z_gI (t := (10, 0, 0)) (k := 3) rfl rfl rfl R (rc_10 R) ?_
        exact y_ret (xst_of (i := .ireturn) (len := 1) rfl rfl rfl) ⟨_, _, rfl, R, H⟩
      · replace H := H.2.1
        have hz : l1 = 1 := Int32.toInt_inj.mp (hy.trans rfl)
        replace H := H hz
        refine y_next (xst_of (i := (.tableswitch 99 0 8 #[51, 56, 61, 66, 71, 73, 75, 78, 83])) (len := 51) rfl rfl (x_sw_in (t := 129) hx (by rw [hy]; rfl) rfl)) ?_
        refine y_next (pc' := 130) (xst_of (i := (.aload_n 0)) (len := 1) rfl rfl (x_aloadV (xisV_r _) e0)) ?_
        refine z_gI (t := (10, 0, 0)) (k := 4) rfl rfl rfl R (rc_10 R) ?_
        exact y_ret (xst_of (i := .ireturn) (len := 1) rfl rfl rfl) ⟨_, _, rfl, R, H⟩
      · replace H := H.2.2.1
        have hz : l1 = 2 := Int32.toInt_inj.mp (hy.trans rfl)
        replace H := H hz
        refine y_next (xst_of (i := (.tableswitch 99 0 8 #[51, 56, 61, 66, 71, 73, 75, 78, 83])) (len := 51) rfl rfl (x_sw_in (t := 134) hx (by rw [hy]; rfl) rfl)) ?_
        refine y_next (pc' := 135) (xst_of (i := (.aload_n 0)) (len := 1) rfl rfl (x_aloadV (xisV_r _) e0)) ?_
        refine z_gI (t := (10, 0, 0)) (k := 31) rfl rfl rfl R (rc_10 R) ?_
        exact y_ret (xst_of (i := .ireturn) (len := 1) rfl rfl rfl) ⟨_, _, rfl, R, H⟩
      · replace H := H.2.2.2.1
        have hz : l1 = 3 := Int32.toInt_inj.mp (hy.trans rfl)
        replace H := H hz
        refine y_next (xst_of (i := (.tableswitch 99 0 8 #[51, 56, 61, 66, 71, 73, 75, 78, 83])) (len := 51) rfl rfl (x_sw_in (t := 139) hx (by rw [hy]; rfl) rfl)) ?_
        refine y_next (pc' := 140) (xst_of (i := (.aload_n 0)) (len := 1) rfl rfl (x_aloadV (xisV_r _) e0)) ?_
        refine z_gI (t := (10, 0, 0)) (k := 32) rfl rfl rfl R (rc_10 R) ?_
        exact y_ret (xst_of (i := .ireturn) (len := 1) rfl rfl rfl) ⟨_, _, rfl, R, H⟩
      · replace H := H.2.2.2.2.1
        have hz : l1 = 4 := Int32.toInt_inj.mp (hy.trans rfl)
        replace H := H hz
        refine y_next (xst_of (i := (.tableswitch 99 0 8 #[51, 56, 61, 66, 71, 73, 75, 78, 83])) (len := 51) rfl rfl (x_sw_in (t := 144) hx (by rw [hy]; rfl) rfl)) ?_
        refine y_next (pc' := 145) (xst_of (i := (.iload_n 2)) (len := 1) rfl rfl (x_ilo e2)) ?_
        exact y_ret (xst_of (i := .ireturn) (len := 1) rfl rfl rfl) ⟨_, _, rfl, R, H⟩
      · replace H := H.2.2.2.2.2.1
        have hz : l1 = 5 := Int32.toInt_inj.mp (hy.trans rfl)
        replace H := H hz
        refine y_next (xst_of (i := (.tableswitch 99 0 8 #[51, 56, 61, 66, 71, 73, 75, 78, 83])) (len := 51) rfl rfl (x_sw_in (t := 146) hx (by rw [hy]; rfl) rfl)) ?_
        refine y_next (pc' := 147) (xst_of (i := (.iload_n 3)) (len := 1) rfl rfl (x_ilo e3)) ?_
        exact y_ret (xst_of (i := .ireturn) (len := 1) rfl rfl rfl) ⟨_, _, rfl, R, H⟩
      · replace H := H.2.2.2.2.2.2.1
        have hz : l1 = 6 := Int32.toInt_inj.mp (hy.trans rfl)
        replace H := H hz
        refine y_next (xst_of (i := (.tableswitch 99 0 8 #[51, 56, 61, 66, 71, 73, 75, 78, 83])) (len := 51) rfl rfl (x_sw_in (t := 148) hx (by rw [hy]; rfl) rfl)) ?_
        refine y_next (pc' := 150) (xst_of (i := (.iload 4)) (len := 2) rfl rfl (x_ilo e4)) ?_
        exact y_ret (xst_of (i := .ireturn) (len := 1) rfl rfl rfl) ⟨_, _, rfl, R, H⟩
      · replace H := H.2.2.2.2.2.2.2.1
        have hz : l1 = 7 := Int32.toInt_inj.mp (hy.trans rfl)
        replace H := H hz
        refine y_next (xst_of (i := (.tableswitch 99 0 8 #[51, 56, 61, 66, 71, 73, 75, 78, 83])) (len := 51) rfl rfl (x_sw_in (t := 151) hx (by rw [hy]; rfl) rfl)) ?_
        refine y_next (pc' := 152) (xst_of (i := (.aload_n 0)) (len := 1) rfl rfl (x_aloadV (xisV_r _) e0)) ?_
        refine z_gI (t := (10, 0, 0)) (k := 34) rfl rfl rfl R (rc_10 R) ?_
        exact y_ret (xst_of (i := .ireturn) (len := 1) rfl rfl rfl) ⟨_, _, rfl, R, H⟩
      · replace H := H.2.2.2.2.2.2.2.2
        have hz : l1 = 8 := Int32.toInt_inj.mp (hy.trans rfl)
        replace H := H hz
        refine y_next (xst_of (i := (.tableswitch 99 0 8 #[51, 56, 61, 66, 71, 73, 75, 78, 83])) (len := 51) rfl rfl (x_sw_in (t := 156) hx (by rw [hy]; rfl) rfl)) ?_
        refine y_next (pc' := 157) (xst_of (i := (.aload_n 0)) (len := 1) rfl rfl (x_aloadV (xisV_r _) e0)) ?_
        refine z_gI (t := (10, 0, 0)) (k := 32) rfl rfl rfl R (rc_10 R) ?_
        by_cases hc : (fI Y (10, 0, 0) 32) = 0
        · replace H := H.1 hc
          refine y_next (pc' := 163) (xst_of (i := (.ifCond .ne 7)) (len := 3) rfl rfl (xf_if_ne (t := 167) rfl (fun z => z hc))) ?_
          refine y_next (pc' := 164) (xst_of (i := (.iconst (-1))) (len := 1) rfl rfl (x_ico (v := (-1)) (by decide))) ?_
          refine y_next (pc' := 171) (xst_of (i := (.goto 7)) (len := 3) rfl rfl rfl) ?_
          exact H _ _ R e0 e1 e2 e3 e4 e5 e6
        · replace H := H.2 hc
          refine y_next (xst_of (i := (.ifCond .ne 7)) (len := 3) rfl rfl (xt_if_ne (t := 167) rfl hc)) ?_
          refine y_next (pc' := 168) (xst_of (i := (.aload_n 0)) (len := 1) rfl rfl (x_aloadV (xisV_r _) e0)) ?_
          refine z_gI (t := (10, 0, 0)) (k := 33) rfl rfl rfl R (rc_10 R) ?_
          exact H _ _ R e0 e1 e2 e3 e4 e5 e6
  · replace H := H.2 hc
    refine y_next (pc' := 26) (xst_of (i := (.if_icmp .ge 49)) (len := 3) rfl rfl (xf_icmp_ge (t := 72) rfl hc)) ?_
    refine y_next (pc' := 27) (xst_of (i := (.aload_n 0)) (len := 1) rfl rfl (x_aloadV (xisV_r _) e0)) ?_
    refine z_gA (t := (10, 0, 0)) (k := 51) rfl rfl rfl R (rc_10 R) ?_
    refine y_next (pc' := 32) (xst_of (i := (.iload 6)) (len := 2) rfl rfl (x_ilo e6)) ?_
    refine z_aZ (t := (10, 0, 0)) (k := 51) (n := 4096) (i := l6) rfl rfl R (rc_10 R) H.1 ?_
    replace H := H.2
    by_cases hc : (fA Y (10, 0, 0) 51 (Int32.toNatClampNeg l6)) = 0
    · replace H := H.1 hc
      refine y_next (xst_of (i := (.ifCond .eq 9)) (len := 3) rfl rfl (xt_if_eq (t := 42) rfl hc)) ?_
      refine z_in (q := 2) (n := 1) (v := 1) rfl e2 (by decide) (by decide) (fun lv1 hlv => ?_)
      have e0 := xs1_A hlv e0 rfl rfl
      have e1 := xs1_B hlv e1 rfl rfl
      have e3 := xs1_A hlv e3 rfl rfl
      have e4 := xs1_A hlv e4 rfl rfl
      have e5 := xs1_A hlv e5 rfl rfl
      have e6 := xs1_A hlv e6 rfl rfl
      have e2 := xs1_N hlv
      clear hlv
      refine z_in (q := 5) (n := 1) (v := 1) rfl e5 (by decide) (by decide) (fun lv2 hlv => ?_)
      have e0 := xs1_A hlv e0 rfl rfl
      have e1 := xs1_A hlv e1 rfl rfl
      have e2 := xs1_A hlv e2 rfl rfl
      have e3 := xs1_A hlv e3 rfl rfl
      have e4 := xs1_B hlv e4 rfl rfl
      have e6 := xs1_A hlv e6 rfl rfl
      have e5 := xs1_N hlv
      clear hlv
      refine y_next (pc' := 50) (xst_of (i := (.iload 5)) (len := 2) rfl rfl (x_ilo e5)) ?_
      refine y_next (pc' := 51) (xst_of (i := (.iconst 1)) (len := 1) rfl rfl (x_ico (v := 1) (by decide))) ?_
      by_cases hc : (l5 + 1) = 1
      · replace H := H.1 hc
        refine y_next (pc' := 54) (xst_of (i := (.if_icmp .ne 6)) (len := 3) rfl rfl (xf_icmp_ne (t := 57) rfl (fun z => z hc))) ?_
        refine z_in (q := 3) (n := 1) (v := 1) rfl e3 (by decide) (by decide) (fun lv3 hlv => ?_)
        have e0 := xs1_A hlv e0 rfl rfl
        have e1 := xs1_A hlv e1 rfl rfl
        have e2 := xs1_B hlv e2 rfl rfl
        have e4 := xs1_A hlv e4 rfl rfl
        have e5 := xs1_A hlv e5 rfl rfl
        have e6 := xs1_A hlv e6 rfl rfl
        have e3 := xs1_N hlv
        clear hlv
        exact H _ _ R e0 e1 e2 e3 e4 e5 e6
      · replace H := H.2 hc
        refine y_next (xst_of (i := (.if_icmp .ne 6)) (len := 3) rfl rfl (xt_icmp_ne (t := 57) rfl hc)) ?_
        exact H _ _ R e0 e1 e2 e3 e4 e5 e6
    · replace H := H.2 hc
      refine y_next (pc' := 36) (xst_of (i := (.ifCond .eq 9)) (len := 3) rfl rfl (xf_if_eq (t := 42) rfl hc)) ?_
      refine y_next (pc' := 37) (xst_of (i := (.iconst 0)) (len := 1) rfl rfl (x_ico (v := 0) (by decide))) ?_
      refine z_is (i := (.istore 5)) (len := 2) (pc' := 39) (q := 5) rfl rfl rfl (by decide) (fun lv4 hlv => ?_)
      have e0 := xs1_A hlv e0 rfl rfl
      have e1 := xs1_A hlv e1 rfl rfl
      have e2 := xs1_A hlv e2 rfl rfl
      have e3 := xs1_A hlv e3 rfl rfl
      have e4 := xs1_B hlv e4 rfl rfl
      have e6 := xs1_A hlv e6 rfl rfl
      have e5 := xs1_N hlv
      clear hlv
      refine y_next (pc' := 66) (xst_of (i := (.goto 27)) (len := 3) rfl rfl rfl) ?_
      exact H _ _ R e0 e1 e2 e3 e4 e5 e6
theorem l_183_57 {V : xV} {g : xG} {Y : xW} {l1 : Int32} {l2 : Int32} {l3 : Int32} {l4 : Int32} {l5 : Int32} {l6 : Int32} {Q : Int32 → xW → Prop} (H : L_185_0 V g Y l4 l5 (fun x2 Y1 => L_183_66 V g Y1 l1 l2 l3 x2 l5 l6 Q)) : L_183_57 V g Y l1 l2 l3 l4 l5 l6 Q := by
  intro h lv R e0 e1 e2 e3 e4 e5 e6
  refine y_next (pc' := 59) (xst_of (i := (.iload 4)) (len := 2) rfl rfl (x_ilo e4)) ?_
  refine y_next (pc' := 61) (xst_of (i := (.iload 5)) (len := 2) rfl rfl (x_ilo e5)) ?_
  refine z_cI (k := 185) (i := (.invokestatic 254)) (as := [.int l4, .int l5]) (rest := []) rfl rfl rfl (H _ _ R rfl rfl) (fun x2 h Y1 R H => ?_)
  refine z_is (i := (.istore 4)) (len := 2) (pc' := 66) (q := 4) rfl rfl rfl (by decide) (fun lv1 hlv => ?_)
  have e0 := xs1_A hlv e0 rfl rfl
  have e1 := xs1_A hlv e1 rfl rfl
  have e2 := xs1_A hlv e2 rfl rfl
  have e3 := xs1_B hlv e3 rfl rfl
  have e5 := xs1_A hlv e5 rfl rfl
  have e6 := xs1_A hlv e6 rfl rfl
  have e4 := xs1_N hlv
  clear hlv
  exact H _ _ R e0 e1 e2 e3 e4 e5 e6
theorem l_183_66 {V : xV} {g : xG} {Y : xW} {l1 : Int32} {l2 : Int32} {l3 : Int32} {l4 : Int32} {l5 : Int32} {l6 : Int32} {Q : Int32 → xW → Prop} (H : L_183_18 V g Y l1 l2 l3 l4 l5 (l6 + 1) Q) : L_183_66 V g Y l1 l2 l3 l4 l5 l6 Q := by
  intro h lv R e0 e1 e2 e3 e4 e5 e6
  refine z_in (q := 6) (n := 1) (v := 1) rfl e6 (by decide) (by decide) (fun lv1 hlv => ?_)
  have e0 := xs1_A hlv e0 rfl rfl
  have e1 := xs1_A hlv e1 rfl rfl
  have e2 := xs1_A hlv e2 rfl rfl
  have e3 := xs1_A hlv e3 rfl rfl
  have e4 := xs1_A hlv e4 rfl rfl
  have e5 := xs1_B hlv e5 rfl rfl
  have e6 := xs1_N hlv
  clear hlv
  refine y_next (pc' := 18) (xst_of (i := (.goto (-51))) (len := 3) rfl rfl rfl) ?_
  exact H _ _ R e0 e1 e2 e3 e4 e5 e6
theorem l_183_171 {V : xV} {g : xG} {Y : xW} {l1 : Int32} {l2 : Int32} {l3 : Int32} {l4 : Int32} {l5 : Int32} {l6 : Int32} {s0 : Int32} {Q : Int32 → xW → Prop} (H : Q s0 Y) : L_183_171 V g Y l1 l2 l3 l4 l5 l6 s0 Q := by
  intro h lv R e0 e1 e2 e3 e4 e5 e6
  exact y_ret (xst_of (i := .ireturn) (len := 1) rfl rfl rfl) ⟨_, _, rfl, R, H⟩
theorem l_184_0 {V : xV} {g : xG} {Y : xW} {l0 : Int64} {Q : Int64 → xW → Prop} (H : ((0 ≤ l0) → L_184_12 V g Y l0 l0 Q) ∧ (¬ (0 ≤ l0) → L_184_12 V g Y l0 (-l0) Q)) : L_184_0 V g Y l0 Q := by
  intro h lv R e0
  refine y_next (pc' := 1) (xst_of (i := (.lload_n 0)) (len := 1) rfl rfl (x_llo e0)) ?_
  refine y_next (pc' := 2) (xst_of (i := (.lconst 0)) (len := 1) rfl rfl (x_lco (v := 0) (by decide))) ?_
  refine y_next (pc' := 3) (xst_of (i := .lcmp) (len := 1) rfl rfl rfl) ?_
  by_cases hc : 0 ≤ l0
  · replace H := H.1 hc
    refine y_next (xst_of (i := (.ifCond .ge 8)) (len := 3) rfl rfl (xt_if_ge (t := 11) rfl ((lg_cmp_ge l0 0).mpr hc))) ?_
    refine y_next (pc' := 12) (xst_of (i := (.lload_n 0)) (len := 1) rfl rfl (x_llo e0)) ?_
    exact H _ _ R e0
  · replace H := H.2 hc
    refine y_next (pc' := 6) (xst_of (i := (.ifCond .ge 8)) (len := 3) rfl rfl (xf_if_ge (t := 11) rfl (fun z => hc ((lg_cmp_ge l0 0).mp z)))) ?_
    refine y_next (pc' := 7) (xst_of (i := (.lload_n 0)) (len := 1) rfl rfl (x_llo e0)) ?_
    refine y_next (pc' := 8) (xst_of (i := .lneg) (len := 1) rfl rfl rfl) ?_
    refine y_next (pc' := 12) (xst_of (i := (.goto 4)) (len := 3) rfl rfl rfl) ?_
    exact H _ _ R e0
theorem l_184_12 {V : xV} {g : xG} {Y : xW} {l0 : Int64} {s0 : Int64} {Q : Int64 → xW → Prop} (H : Q s0 Y) : L_184_12 V g Y l0 s0 Q := by
  intro h lv R e0
  exact y_ret (xst_of (i := .lreturn) (len := 1) rfl rfl rfl) ⟨_, _, rfl, R, H⟩
theorem l_185_0 {V : xV} {g : xG} {Y : xW} {l0 : Int32} {l1 : Int32} {Q : Int32 → xW → Prop} (H : ((l0 < l1) → L_185_10 V g Y l0 l1 l1 Q) ∧ (¬ (l0 < l1) → L_185_10 V g Y l0 l1 l0 Q)) : L_185_0 V g Y l0 l1 Q := by
  intro h lv R e0 e1
  refine y_next (pc' := 1) (xst_of (i := (.iload_n 0)) (len := 1) rfl rfl (x_ilo e0)) ?_
  refine y_next (pc' := 2) (xst_of (i := (.iload_n 1)) (len := 1) rfl rfl (x_ilo e1)) ?_
  by_cases hc : l0 < l1
  · replace H := H.1 hc
    refine y_next (xst_of (i := (.if_icmp .lt 7)) (len := 3) rfl rfl (xt_icmp_lt (t := 9) rfl hc)) ?_
    refine y_next (pc' := 10) (xst_of (i := (.iload_n 1)) (len := 1) rfl rfl (x_ilo e1)) ?_
    exact H _ _ R e0 e1
  · replace H := H.2 hc
    refine y_next (pc' := 5) (xst_of (i := (.if_icmp .lt 7)) (len := 3) rfl rfl (xf_icmp_lt (t := 9) rfl hc)) ?_
    refine y_next (pc' := 6) (xst_of (i := (.iload_n 0)) (len := 1) rfl rfl (x_ilo e0)) ?_
    refine y_next (pc' := 10) (xst_of (i := (.goto 4)) (len := 3) rfl rfl rfl) ?_
    exact H _ _ R e0 e1
theorem l_185_10 {V : xV} {g : xG} {Y : xW} {l0 : Int32} {l1 : Int32} {s0 : Int32} {Q : Int32 → xW → Prop} (H : Q s0 Y) : L_185_10 V g Y l0 l1 s0 Q := by
  intro h lv R e0 e1
  exact y_ret (xst_of (i := .ireturn) (len := 1) rfl rfl rfl) ⟨_, _, rfl, R, H⟩
theorem l_186_0 {V : xV} {g : xG} {Y : xW} {l0 : Int64} {l2 : Int64} {Q : Int64 → xW → Prop} (H : ((l0 < l2) → L_186_11 V g Y l0 l2 l2 Q) ∧ (¬ (l0 < l2) → L_186_11 V g Y l0 l2 l0 Q)) : L_186_0 V g Y l0 l2 Q := by
  intro h lv R e0 e2
  refine y_next (pc' := 1) (xst_of (i := (.lload_n 0)) (len := 1) rfl rfl (x_llo e0)) ?_
  refine y_next (pc' := 2) (xst_of (i := (.lload_n 2)) (len := 1) rfl rfl (x_llo e2)) ?_
  refine y_next (pc' := 3) (xst_of (i := .lcmp) (len := 1) rfl rfl rfl) ?_
  by_cases hc : l0 < l2
  · replace H := H.1 hc
    refine y_next (xst_of (i := (.ifCond .lt 7)) (len := 3) rfl rfl (xt_if_lt (t := 10) rfl ((lg_cmp_lt l0 l2).mpr hc))) ?_
    refine y_next (pc' := 11) (xst_of (i := (.lload_n 2)) (len := 1) rfl rfl (x_llo e2)) ?_
    exact H _ _ R e0 e2
  · replace H := H.2 hc
    refine y_next (pc' := 6) (xst_of (i := (.ifCond .lt 7)) (len := 3) rfl rfl (xf_if_lt (t := 10) rfl (fun z => hc ((lg_cmp_lt l0 l2).mp z)))) ?_
    refine y_next (pc' := 7) (xst_of (i := (.lload_n 0)) (len := 1) rfl rfl (x_llo e0)) ?_
    refine y_next (pc' := 11) (xst_of (i := (.goto 4)) (len := 3) rfl rfl rfl) ?_
    exact H _ _ R e0 e2
theorem l_186_11 {V : xV} {g : xG} {Y : xW} {l0 : Int64} {l2 : Int64} {s0 : Int64} {Q : Int64 → xW → Prop} (H : Q s0 Y) : L_186_11 V g Y l0 l2 s0 Q := by
  intro h lv R e0 e2
  exact y_ret (xst_of (i := .lreturn) (len := 1) rfl rfl rfl) ⟨_, _, rfl, R, H⟩
theorem l_187_0 {V : xV} {g : xG} {Y : xW} {l0 : Int32} {l1 : Int32} {Q : Int32 → xW → Prop} (H : ((l1 < l0) → L_187_10 V g Y l0 l1 l1 Q) ∧ (¬ (l1 < l0) → L_187_10 V g Y l0 l1 l0 Q)) : L_187_0 V g Y l0 l1 Q := by
  intro h lv R e0 e1
  refine y_next (pc' := 1) (xst_of (i := (.iload_n 0)) (len := 1) rfl rfl (x_ilo e0)) ?_
  refine y_next (pc' := 2) (xst_of (i := (.iload_n 1)) (len := 1) rfl rfl (x_ilo e1)) ?_
  by_cases hc : l1 < l0
  · replace H := H.1 hc
    refine y_next (xst_of (i := (.if_icmp .gt 7)) (len := 3) rfl rfl (xt_icmp_gt (t := 9) rfl hc)) ?_
    refine y_next (pc' := 10) (xst_of (i := (.iload_n 1)) (len := 1) rfl rfl (x_ilo e1)) ?_
    exact H _ _ R e0 e1
  · replace H := H.2 hc
    refine y_next (pc' := 5) (xst_of (i := (.if_icmp .gt 7)) (len := 3) rfl rfl (xf_icmp_gt (t := 9) rfl hc)) ?_
    refine y_next (pc' := 6) (xst_of (i := (.iload_n 0)) (len := 1) rfl rfl (x_ilo e0)) ?_
    refine y_next (pc' := 10) (xst_of (i := (.goto 4)) (len := 3) rfl rfl rfl) ?_
    exact H _ _ R e0 e1
theorem l_187_10 {V : xV} {g : xG} {Y : xW} {l0 : Int32} {l1 : Int32} {s0 : Int32} {Q : Int32 → xW → Prop} (H : Q s0 Y) : L_187_10 V g Y l0 l1 s0 Q := by
  intro h lv R e0 e1
  exact y_ret (xst_of (i := .ireturn) (len := 1) rfl rfl rfl) ⟨_, _, rfl, R, H⟩
theorem l_188_0 {V : xV} {g : xG} {Y : xW} {l0 : Int64} {l2 : Int64} {Q : Int64 → xW → Prop} (H : ((l2 < l0) → L_188_11 V g Y l0 l2 l2 Q) ∧ (¬ (l2 < l0) → L_188_11 V g Y l0 l2 l0 Q)) : L_188_0 V g Y l0 l2 Q := by
  intro h lv R e0 e2
  refine y_next (pc' := 1) (xst_of (i := (.lload_n 0)) (len := 1) rfl rfl (x_llo e0)) ?_
  refine y_next (pc' := 2) (xst_of (i := (.lload_n 2)) (len := 1) rfl rfl (x_llo e2)) ?_
  refine y_next (pc' := 3) (xst_of (i := .lcmp) (len := 1) rfl rfl rfl) ?_
  by_cases hc : l2 < l0
  · replace H := H.1 hc
    refine y_next (xst_of (i := (.ifCond .gt 7)) (len := 3) rfl rfl (xt_if_gt (t := 10) rfl ((lg_cmp_gt l0 l2).mpr hc))) ?_
    refine y_next (pc' := 11) (xst_of (i := (.lload_n 2)) (len := 1) rfl rfl (x_llo e2)) ?_
    exact H _ _ R e0 e2
  · replace H := H.2 hc
    refine y_next (pc' := 6) (xst_of (i := (.ifCond .gt 7)) (len := 3) rfl rfl (xf_if_gt (t := 10) rfl (fun z => hc ((lg_cmp_gt l0 l2).mp z)))) ?_
    refine y_next (pc' := 7) (xst_of (i := (.lload_n 0)) (len := 1) rfl rfl (x_llo e0)) ?_
    refine y_next (pc' := 11) (xst_of (i := (.goto 4)) (len := 3) rfl rfl rfl) ?_
    exact H _ _ R e0 e2
theorem l_188_11 {V : xV} {g : xG} {Y : xW} {l0 : Int64} {l2 : Int64} {s0 : Int64} {Q : Int64 → xW → Prop} (H : Q s0 Y) : L_188_11 V g Y l0 l2 s0 Q := by
  intro h lv R e0 e2
  exact y_ret (xst_of (i := .lreturn) (len := 1) rfl rfl rfl) ⟨_, _, rfl, R, H⟩
