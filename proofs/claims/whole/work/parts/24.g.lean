theorem l_124_0 {V : xV} {g : xG} {Y : xW}  {Q : Int32 → xW → Prop} (H : Q (fI Y (10, 0, 0) 2) Y) : L_124_0 V g Y  Q := by
  intro h lv R e0
  refine y_next (pc' := 1) (xst_of (i := (.aload_n 0)) (len := 1) rfl rfl (x_aloadV (xisV_r _) e0)) ?_
  refine z_gI (t := (10, 0, 0)) (k := 2) rfl rfl rfl R (rc_10 R) ?_
  exact y_ret (xst_of (i := .ireturn) (len := 1) rfl rfl rfl) ⟨_, _, rfl, R, H⟩
theorem l_125_0 {V : xV} {g : xG} {Y : xW}  {Q : Int32 → xW → Prop} (H : ∀ Y1, Y1 = uI Y (10, 0, 0) 2 1 → Q 0 Y1) : L_125_0 V g Y  Q := by
  intro h lv R e0
  refine y_next (pc' := 1) (xst_of (i := (.aload_n 0)) (len := 1) rfl rfl (x_aloadV (xisV_r _) e0)) ?_
  refine y_next (pc' := 2) (xst_of (i := (.iconst 1)) (len := 1) rfl rfl (x_ico (v := 1) (by decide))) ?_
  refine z_pI (t := (10, 0, 0)) (k := 2) rfl rfl rfl rfl rfl R (rc_10 R) (fun h Y1 hY R => ?_)
  replace H := H Y1 hY
  clear hY
  refine y_next (pc' := 6) (xst_of (i := (.iconst 0)) (len := 1) rfl rfl (x_ico (v := 0) (by decide))) ?_
  exact y_ret (xst_of (i := .ireturn) (len := 1) rfl rfl rfl) ⟨_, _, rfl, R, H⟩
theorem l_126_0 {V : xV} {g : xG} {Y : xW} {l1 : Int32} {Q : Int32 → xW → Prop} (H : ∀ Y1, Y1 = uI Y (10, 0, 0) 2 0 → ((0 ≤ (fI Y1 (10, 0, 0) 5)) → L_126_33 V g Y1 l1 Q) ∧ (¬ (0 ≤ (fI Y1 (10, 0, 0) 5)) → (((fI Y1 (10, 0, 0) 3) = 24) → L_126_33 V g Y1 l1 Q) ∧ (¬ ((fI Y1 (10, 0, 0) 3) = 24) → ((l1 < 1) → L_126_33 V g Y1 l1 Q) ∧ (¬ (l1 < 1) → ((l1 ≤ 1024) → ∀ Y2, Y2 = uI Y1 (10, 0, 0) 5 (fI Y1 (10, 0, 0) 3) → ∀ Y3, Y3 = uI Y2 (10, 0, 0) 3 ((fI Y2 (10, 0, 0) 3) + 1) → vp_in (fI Y3 (10, 0, 0) 5) 24 ∧ ∀ Y4, Y4 = uA Y3 (10, 0, 0) 7 (Int32.toNatClampNeg (fI Y3 (10, 0, 0) 5)) l1 → vp_in (fI Y4 (10, 0, 0) 5) 24 ∧ ∀ Y5, Y5 = uA Y4 (10, 0, 0) 9 (Int32.toNatClampNeg (fI Y4 (10, 0, 0) 5)) 1 → vp_in (fI Y5 (10, 0, 0) 5) 24 ∧ ∀ Y6, Y6 = uA Y5 (10, 0, 0) 11 (Int32.toNatClampNeg (fI Y5 (10, 0, 0) 5)) (-1) → L_126_85 V g Y6 l1 0 Q) ∧ (¬ (l1 ≤ 1024) → L_126_33 V g Y1 l1 Q))))) : L_126_0 V g Y l1 Q := by
  intro h lv R e0 e1
  refine y_next (pc' := 1) (xst_of (i := (.aload_n 0)) (len := 1) rfl rfl (x_aloadV (xisV_r _) e0)) ?_
  refine y_next (pc' := 2) (xst_of (i := (.iconst 0)) (len := 1) rfl rfl (x_ico (v := 0) (by decide))) ?_
  refine z_pI (t := (10, 0, 0)) (k := 2) rfl rfl rfl rfl rfl R (rc_10 R) (fun h Y1 hY R => ?_)
  replace H := H Y1 hY
  clear hY
  refine y_next (pc' := 6) (xst_of (i := (.aload_n 0)) (len := 1) rfl rfl (x_aloadV (xisV_r _) e0)) ?_
  refine z_gI (t := (10, 0, 0)) (k := 5) rfl rfl rfl R (rc_10 R) ?_
  by_cases hc : 0 ≤ (fI Y1 (10, 0, 0) 5)
  · replace H := H.1 hc
    refine y_next (xst_of (i := (.ifCond .ge 24)) (len := 3) rfl rfl (xt_if_ge (t := 33) rfl hc)) ?_
    exact H _ _ R e0 e1
  · replace H := H.2 hc
    refine y_next (pc' := 12) (xst_of (i := (.ifCond .ge 24)) (len := 3) rfl rfl (xf_if_ge (t := 33) rfl hc)) ?_
    refine y_next (pc' := 13) (xst_of (i := (.aload_n 0)) (len := 1) rfl rfl (x_aloadV (xisV_r _) e0)) ?_
    refine z_gI (t := (10, 0, 0)) (k := 3) rfl rfl rfl R (rc_10 R) ?_
    refine y_next (pc' := 18) (xst_of (i := (.bipush 24)) (len := 2) rfl rfl (x_bip (v := 24) (by decide))) ?_
    by_cases hc : (fI Y1 (10, 0, 0) 3) = 24
    · replace H := H.1 hc
      refine y_next (xst_of (i := (.if_icmp .eq 15)) (len := 3) rfl rfl (xt_icmp_eq (t := 33) rfl hc)) ?_
      exact H _ _ R e0 e1
    · replace H := H.2 hc
      refine y_next (pc' := 21) (xst_of (i := (.if_icmp .eq 15)) (len := 3) rfl rfl (xf_icmp_eq (t := 33) rfl hc)) ?_
      refine y_next (pc' := 22) (xst_of (i := (.iload_n 1)) (len := 1) rfl rfl (x_ilo e1)) ?_
      refine y_next (pc' := 23) (xst_of (i := (.iconst 1)) (len := 1) rfl rfl (x_ico (v := 1) (by decide))) ?_
      by_cases hc : l1 < 1
      · replace H := H.1 hc
        refine y_next (xst_of (i := (.if_icmp .lt 10)) (len := 3) rfl rfl (xt_icmp_lt (t := 33) rfl hc)) ?_
        exact H _ _ R e0 e1
      · replace H := H.2 hc
        refine y_next (pc' := 26) (xst_of (i := (.if_icmp .lt 10)) (len := 3) rfl rfl (xf_icmp_lt (t := 33) rfl hc)) ?_
        refine y_next (pc' := 27) (xst_of (i := (.iload_n 1)) (len := 1) rfl rfl (x_ilo e1)) ?_
        refine y_next (pc' := 30) (xst_of (i := (.sipush 1024)) (len := 3) rfl rfl (x_sip (v := 1024) (by decide))) ?_
        by_cases hc : l1 ≤ 1024
        · replace H := H.1 hc
          refine y_next (xst_of (i := (.if_icmp .le 5)) (len := 3) rfl rfl (xt_icmp_le (t := 35) rfl hc)) ?_
          refine y_next (pc' := 36) (xst_of (i := (.aload_n 0)) (len := 1) rfl rfl (x_aloadV (xisV_r _) e0)) ?_
          refine y_next (pc' := 37) (xst_of (i := (.aload_n 0)) (len := 1) rfl rfl (x_aloadV (xisV_r _) e0)) ?_
          refine z_gI (t := (10, 0, 0)) (k := 3) rfl rfl rfl R (rc_10 R) ?_
          refine z_pI (t := (10, 0, 0)) (k := 5) rfl rfl rfl rfl rfl R (rc_10 R) (fun h Y2 hY R => ?_)
          replace H := H Y2 hY
          clear hY
          refine y_next (pc' := 44) (xst_of (i := (.aload_n 0)) (len := 1) rfl rfl (x_aloadV (xisV_r _) e0)) ?_
          refine y_next (pc' := 45) (xst_of (i := .dup) (len := 1) rfl rfl (x_dup rfl)) ?_
          refine z_gI (t := (10, 0, 0)) (k := 3) rfl rfl rfl R (rc_10 R) ?_
          refine y_next (pc' := 49) (xst_of (i := (.iconst 1)) (len := 1) rfl rfl (x_ico (v := 1) (by decide))) ?_
          refine y_next (pc' := 50) (xst_of (i := .iadd) (len := 1) rfl rfl rfl) ?_
          refine z_pI (t := (10, 0, 0)) (k := 3) rfl rfl rfl rfl rfl R (rc_10 R) (fun h Y3 hY R => ?_)
          replace H := H Y3 hY
          clear hY
          refine y_next (pc' := 54) (xst_of (i := (.aload_n 0)) (len := 1) rfl rfl (x_aloadV (xisV_r _) e0)) ?_
          refine z_gA (t := (10, 0, 0)) (k := 7) rfl rfl rfl R (rc_10 R) ?_
          refine y_next (pc' := 58) (xst_of (i := (.aload_n 0)) (len := 1) rfl rfl (x_aloadV (xisV_r _) e0)) ?_
          refine z_gI (t := (10, 0, 0)) (k := 5) rfl rfl rfl R (rc_10 R) ?_
          refine y_next (pc' := 62) (xst_of (i := (.iload_n 1)) (len := 1) rfl rfl (x_ilo e1)) ?_
          refine z_sI (t := (10, 0, 0)) (k := 7) (n := 24) (i := (fI Y3 (10, 0, 0) 5)) rfl rfl R (rc_10 R) H.1 (fun h Y4 hY R => ?_)
          replace H := H.2 Y4 hY
          clear hY
          refine y_next (pc' := 64) (xst_of (i := (.aload_n 0)) (len := 1) rfl rfl (x_aloadV (xisV_r _) e0)) ?_
          refine z_gA (t := (10, 0, 0)) (k := 9) rfl rfl rfl R (rc_10 R) ?_
          refine y_next (pc' := 68) (xst_of (i := (.aload_n 0)) (len := 1) rfl rfl (x_aloadV (xisV_r _) e0)) ?_
          refine z_gI (t := (10, 0, 0)) (k := 5) rfl rfl rfl R (rc_10 R) ?_
          refine y_next (pc' := 72) (xst_of (i := (.iconst 1)) (len := 1) rfl rfl (x_ico (v := 1) (by decide))) ?_
          refine z_sI (t := (10, 0, 0)) (k := 9) (n := 24) (i := (fI Y4 (10, 0, 0) 5)) rfl rfl R (rc_10 R) H.1 (fun h Y5 hY R => ?_)
          replace H := H.2 Y5 hY
          clear hY
          refine y_next (pc' := 74) (xst_of (i := (.aload_n 0)) (len := 1) rfl rfl (x_aloadV (xisV_r _) e0)) ?_
          refine z_gA (t := (10, 0, 0)) (k := 11) rfl rfl rfl R (rc_10 R) ?_
          refine y_next (pc' := 78) (xst_of (i := (.aload_n 0)) (len := 1) rfl rfl (x_aloadV (xisV_r _) e0)) ?_
          refine z_gI (t := (10, 0, 0)) (k := 5) rfl rfl rfl R (rc_10 R) ?_
          refine y_next (pc' := 82) (xst_of (i := (.iconst (-1))) (len := 1) rfl rfl (x_ico (v := (-1)) (by decide))) ?_
          refine z_sI (t := (10, 0, 0)) (k := 11) (n := 24) (i := (fI Y5 (10, 0, 0) 5)) rfl rfl R (rc_10 R) H.1 (fun h Y6 hY R => ?_)
          replace H := H.2 Y6 hY
          clear hY
          refine y_next (pc' := 84) (xst_of (i := (.iconst 0)) (len := 1) rfl rfl (x_ico (v := 0) (by decide))) ?_
          refine z_is (i := (.istore_n 2)) (len := 1) (pc' := 85) (q := 2) rfl rfl rfl (by decide) (fun lv1 hlv => ?_)
          have e0 := xs1_A hlv e0 rfl rfl
          have e1 := xs1_B hlv e1 rfl rfl
          have e2 := xs1_N hlv
          clear hlv
          exact H _ _ R e0 e1 e2
        · replace H := H.2 hc
          refine y_next (pc' := 33) (xst_of (i := (.if_icmp .le 5)) (len := 3) rfl rfl (xf_icmp_le (t := 35) rfl hc)) ?_
          exact H _ _ R e0 e1
theorem l_126_33 {V : xV} {g : xG} {Y : xW} {l1 : Int32} {Q : Int32 → xW → Prop} (H : Q (-1) Y) : L_126_33 V g Y l1 Q := by
  intro h lv R e0 e1
  refine y_next (pc' := 34) (xst_of (i := (.iconst (-1))) (len := 1) rfl rfl (x_ico (v := (-1)) (by decide))) ?_
  exact y_ret (xst_of (i := .ireturn) (len := 1) rfl rfl rfl) ⟨_, _, rfl, R, H⟩
theorem l_126_85 {V : xV} {g : xG} {Y : xW} {l1 : Int32} {l2 : Int32} {Q : Int32 → xW → Prop} (H : ((200 ≤ l2) → Q (fI Y (10, 0, 0) 5) Y) ∧ (¬ (200 ≤ l2) → vp_in ((200 * (fI Y (10, 0, 0) 5)) + l2) 4800 ∧ ∀ Y1, Y1 = uA Y (10, 0, 0) 13 (Int32.toNatClampNeg ((200 * (fI Y (10, 0, 0) 5)) + l2)) (-1) → L_126_85 V g Y1 l1 (l2 + 1) Q)) : L_126_85 V g Y l1 l2 Q := by
  intro h lv R e0 e1 e2
  refine y_next (pc' := 86) (xst_of (i := (.iload_n 2)) (len := 1) rfl rfl (x_ilo e2)) ?_
  refine y_next (pc' := 89) (xst_of (i := (.sipush 200)) (len := 3) rfl rfl (x_sip (v := 200) (by decide))) ?_
  by_cases hc : 200 ≤ l2
  · replace H := H.1 hc
    refine y_next (xst_of (i := (.if_icmp .ge 25)) (len := 3) rfl rfl (xt_icmp_ge (t := 114) rfl hc)) ?_
    refine y_next (pc' := 115) (xst_of (i := (.aload_n 0)) (len := 1) rfl rfl (x_aloadV (xisV_r _) e0)) ?_
    refine z_gI (t := (10, 0, 0)) (k := 5) rfl rfl rfl R (rc_10 R) ?_
    exact y_ret (xst_of (i := .ireturn) (len := 1) rfl rfl rfl) ⟨_, _, rfl, R, H⟩
  · replace H := H.2 hc
    refine y_next (pc' := 92) (xst_of (i := (.if_icmp .ge 25)) (len := 3) rfl rfl (xf_icmp_ge (t := 114) rfl hc)) ?_
    refine y_next (pc' := 93) (xst_of (i := (.aload_n 0)) (len := 1) rfl rfl (x_aloadV (xisV_r _) e0)) ?_
    refine z_gA (t := (10, 0, 0)) (k := 13) rfl rfl rfl R (rc_10 R) ?_
    refine y_next (pc' := 99) (xst_of (i := (.sipush 200)) (len := 3) rfl rfl (x_sip (v := 200) (by decide))) ?_
    refine y_next (pc' := 100) (xst_of (i := (.aload_n 0)) (len := 1) rfl rfl (x_aloadV (xisV_r _) e0)) ?_
    refine z_gI (t := (10, 0, 0)) (k := 5) rfl rfl rfl R (rc_10 R) ?_
    refine y_next (pc' := 104) (xst_of (i := .imul) (len := 1) rfl rfl rfl) ?_
    refine y_next (pc' := 105) (xst_of (i := (.iload_n 2)) (len := 1) rfl rfl (x_ilo e2)) ?_
    refine y_next (pc' := 106) (xst_of (i := .iadd) (len := 1) rfl rfl rfl) ?_
    refine y_next (pc' := 107) (xst_of (i := (.iconst (-1))) (len := 1) rfl rfl (x_ico (v := (-1)) (by decide))) ?_
    refine z_sI (t := (10, 0, 0)) (k := 13) (n := 4800) (i := ((200 * (fI Y (10, 0, 0) 5)) + l2)) rfl rfl R (rc_10 R) H.1 (fun h Y1 hY R => ?_)
    replace H := H.2 Y1 hY
    clear hY
    refine z_in (q := 2) (n := 1) (v := 1) rfl e2 (by decide) (by decide) (fun lv1 hlv => ?_)
    have e0 := xs1_A hlv e0 rfl rfl
    have e1 := xs1_B hlv e1 rfl rfl
    have e2 := xs1_N hlv
    clear hlv
    refine y_next (pc' := 85) (xst_of (i := (.goto (-26))) (len := 3) rfl rfl rfl) ?_
    exact H _ _ R e0 e1 e2
theorem l_127_0 {V : xV} {g : xG} {Y : xW} {l0 : Int32} {Q : Int32 → xW → Prop} (H : Q ((Int32.toUInt32 l0 >>> (Int32.toUInt32 24 &&& Int32.toUInt32 31)).toInt32) Y) : L_127_0 V g Y l0 Q := by
  intro h lv R e0
  refine y_next (pc' := 1) (xst_of (i := (.iload_n 0)) (len := 1) rfl rfl (x_ilo e0)) ?_
  refine y_next (pc' := 3) (xst_of (i := (.bipush 24)) (len := 2) rfl rfl (x_bip (v := 24) (by decide))) ?_
  refine y_next (pc' := 4) (xst_of (i := .iushr) (len := 1) rfl rfl rfl) ?_
  exact y_ret (xst_of (i := .ireturn) (len := 1) rfl rfl rfl) ⟨_, _, rfl, R, H⟩
theorem l_128_0 {V : xV} {g : xG} {Y : xW} {l0 : Int32} {Q : Int32 → xW → Prop} (H : Q ((Int32.toUInt32 l0 >>> (Int32.toUInt32 20 &&& Int32.toUInt32 31)).toInt32 &&& 15) Y) : L_128_0 V g Y l0 Q := by
  intro h lv R e0
  refine y_next (pc' := 1) (xst_of (i := (.iload_n 0)) (len := 1) rfl rfl (x_ilo e0)) ?_
  refine y_next (pc' := 3) (xst_of (i := (.bipush 20)) (len := 2) rfl rfl (x_bip (v := 20) (by decide))) ?_
  refine y_next (pc' := 4) (xst_of (i := .iushr) (len := 1) rfl rfl rfl) ?_
  refine y_next (pc' := 6) (xst_of (i := (.bipush 15)) (len := 2) rfl rfl (x_bip (v := 15) (by decide))) ?_
  refine y_next (pc' := 7) (xst_of (i := .iand) (len := 1) rfl rfl rfl) ?_
  exact y_ret (xst_of (i := .ireturn) (len := 1) rfl rfl rfl) ⟨_, _, rfl, R, H⟩
theorem l_129_0 {V : xV} {g : xG} {Y : xW} {l0 : Int32} {Q : Int32 → xW → Prop} (H : Q ((Int32.toUInt32 l0 >>> (Int32.toUInt32 16 &&& Int32.toUInt32 31)).toInt32 &&& 15) Y) : L_129_0 V g Y l0 Q := by
  intro h lv R e0
  refine y_next (pc' := 1) (xst_of (i := (.iload_n 0)) (len := 1) rfl rfl (x_ilo e0)) ?_
  refine y_next (pc' := 3) (xst_of (i := (.bipush 16)) (len := 2) rfl rfl (x_bip (v := 16) (by decide))) ?_
  refine y_next (pc' := 4) (xst_of (i := .iushr) (len := 1) rfl rfl rfl) ?_
  refine y_next (pc' := 6) (xst_of (i := (.bipush 15)) (len := 2) rfl rfl (x_bip (v := 15) (by decide))) ?_
  refine y_next (pc' := 7) (xst_of (i := .iand) (len := 1) rfl rfl rfl) ?_
  exact y_ret (xst_of (i := .ireturn) (len := 1) rfl rfl rfl) ⟨_, _, rfl, R, H⟩
theorem l_130_0 {V : xV} {g : xG} {Y : xW} {l0 : Int32} {Q : Int32 → xW → Prop} (H : Q (l0 &&& 65535) Y) : L_130_0 V g Y l0 Q := by
  intro h lv R e0
  refine y_next (pc' := 1) (xst_of (i := (.iload_n 0)) (len := 1) rfl rfl (x_ilo e0)) ?_
  refine y_next (pc' := 3) (xst_of (i := (.ldc 143)) (len := 2) rfl rfl rfl) ?_
  refine y_next (pc' := 4) (xst_of (i := .iand) (len := 1) rfl rfl rfl) ?_
  exact y_ret (xst_of (i := .ireturn) (len := 1) rfl rfl rfl) ⟨_, _, rfl, R, H⟩
theorem l_131_0 {V : xV} {g : xG} {Y : xW} {l0 : Int32} {Q : Int32 → xW → Prop} (H : Q ((Int32.toUInt32 l0 >>> (Int32.toUInt32 12 &&& Int32.toUInt32 31)).toInt32 &&& 15) Y) : L_131_0 V g Y l0 Q := by
  intro h lv R e0
  refine y_next (pc' := 1) (xst_of (i := (.iload_n 0)) (len := 1) rfl rfl (x_ilo e0)) ?_
  refine y_next (pc' := 3) (xst_of (i := (.bipush 12)) (len := 2) rfl rfl (x_bip (v := 12) (by decide))) ?_
  refine y_next (pc' := 4) (xst_of (i := .iushr) (len := 1) rfl rfl rfl) ?_
  refine y_next (pc' := 6) (xst_of (i := (.bipush 15)) (len := 2) rfl rfl (x_bip (v := 15) (by decide))) ?_
  refine y_next (pc' := 7) (xst_of (i := .iand) (len := 1) rfl rfl rfl) ?_
  exact y_ret (xst_of (i := .ireturn) (len := 1) rfl rfl rfl) ⟨_, _, rfl, R, H⟩
theorem l_132_0 {V : xV} {g : xG} {Y : xW} {l1 : Int32} {Q : Int32 → xW → Prop} (H : L_127_0 V g Y l1 (fun x2 Y1 => ((x2 ≤ 20) → vp_in x2 21 ∧ L_128_0 V g Y1 l1 (fun x4 Y3 => ((((fA Y1 (10, 0, 0) 0 (Int32.toNatClampNeg x2)) &&& 1) = 0) → L_132_36 V g Y3 l1 x2 (fA Y1 (10, 0, 0) 0 (Int32.toNatClampNeg x2)) x4 0 Q) ∧ (¬ (((fA Y1 (10, 0, 0) 0 (Int32.toNatClampNeg x2)) &&& 1) = 0) → L_132_36 V g Y3 l1 x2 (fA Y1 (10, 0, 0) 0 (Int32.toNatClampNeg x2)) x4 7 Q))) ∧ (¬ (x2 ≤ 20) → ((0 : Int32) = 0 ∨ (0 : Int32) = 1) ∧ Q 0 Y1))) : L_132_0 V g Y l1 Q := by
  intro h lv R e0 e1
  refine y_next (pc' := 1) (xst_of (i := (.iload_n 1)) (len := 1) rfl rfl (x_ilo e1)) ?_
  refine z_cI (k := 127) (i := (.invokestatic 144)) (as := [.int l1]) (rest := []) rfl rfl rfl (H _ _ R rfl) (fun x2 h Y1 R H => ?_)
  refine z_is (i := (.istore_n 2)) (len := 1) (pc' := 5) (q := 2) rfl rfl rfl (by decide) (fun lv1 hlv => ?_)
  have e0 := xs1_A hlv e0 rfl rfl
  have e1 := xs1_B hlv e1 rfl rfl
  have e2 := xs1_N hlv
  clear hlv
  refine y_next (pc' := 6) (xst_of (i := (.iload_n 2)) (len := 1) rfl rfl (x_ilo e2)) ?_
  refine y_next (pc' := 8) (xst_of (i := (.bipush 20)) (len := 2) rfl rfl (x_bip (v := 20) (by decide))) ?_
  by_cases hc : x2 ≤ 20
  · replace H := H.1 hc
    refine y_next (xst_of (i := (.if_icmp .le 5)) (len := 3) rfl rfl (xt_icmp_le (t := 13) rfl hc)) ?_
    refine y_next (pc' := 14) (xst_of (i := (.aload_n 0)) (len := 1) rfl rfl (x_aloadV (xisV_r _) e0)) ?_
    refine z_gA (t := (10, 0, 0)) (k := 0) rfl rfl rfl R (rc_10 R) ?_
    refine y_next (pc' := 18) (xst_of (i := (.iload_n 2)) (len := 1) rfl rfl (x_ilo e2)) ?_
    refine z_aI (t := (10, 0, 0)) (k := 0) (n := 21) (i := x2) rfl rfl R (rc_10 R) H.1 ?_
    replace H := H.2
    refine z_is (i := (.istore_n 3)) (len := 1) (pc' := 20) (q := 3) rfl rfl rfl (by decide) (fun lv2 hlv => ?_)
    have e0 := xs1_A hlv e0 rfl rfl
    have e1 := xs1_A hlv e1 rfl rfl
    have e2 := xs1_B hlv e2 rfl rfl
    have e3 := xs1_N hlv
    clear hlv
    refine y_next (pc' := 21) (xst_of (i := (.iload_n 1)) (len := 1) rfl rfl (x_ilo e1)) ?_
    refine z_cI (k := 128) (i := (.invokestatic 148)) (as := [.int l1]) (rest := []) rfl rfl rfl (H _ _ R rfl) (fun x4 h Y3 R H => ?_)
    refine y_next (pc' := 25) (xst_of (i := (.iload_n 3)) (len := 1) rfl rfl (x_ilo e3)) ?_
    refine y_next (pc' := 26) (xst_of (i := (.iconst 1)) (len := 1) rfl rfl (x_ico (v := 1) (by decide))) ?_
    refine y_next (pc' := 27) (xst_of (i := .iand) (len := 1) rfl rfl rfl) ?_
    by_cases hc : ((fA Y1 (10, 0, 0) 0 (Int32.toNatClampNeg x2)) &&& 1) = 0
    · replace H := H.1 hc
      refine y_next (xst_of (i := (.ifCond .eq 8)) (len := 3) rfl rfl (xt_if_eq (t := 35) rfl hc)) ?_
      refine y_next (pc' := 36) (xst_of (i := (.iconst 0)) (len := 1) rfl rfl (x_ico (v := 0) (by decide))) ?_
      exact H _ _ R e0 e1 e2 e3
    · replace H := H.2 hc
      refine y_next (pc' := 30) (xst_of (i := (.ifCond .eq 8)) (len := 3) rfl rfl (xf_if_eq (t := 35) rfl hc)) ?_
      refine y_next (pc' := 32) (xst_of (i := (.bipush 7)) (len := 2) rfl rfl (x_bip (v := 7) (by decide))) ?_
      refine y_next (pc' := 36) (xst_of (i := (.goto 4)) (len := 3) rfl rfl rfl) ?_
      exact H _ _ R e0 e1 e2 e3
  · replace H := H.2 hc
    refine y_next (pc' := 11) (xst_of (i := (.if_icmp .le 5)) (len := 3) rfl rfl (xf_icmp_le (t := 13) rfl hc)) ?_
    refine y_next (pc' := 12) (xst_of (i := (.iconst 0)) (len := 1) rfl rfl (x_ico (v := 0) (by decide))) ?_
    exact y_ret (xst_of (i := .ireturn) (len := 1) rfl rfl (x_zret rfl H.1)) ⟨_, _, rfl, R, H.2⟩
theorem l_132_36 {V : xV} {g : xG} {Y : xW} {l1 : Int32} {l2 : Int32} {l3 : Int32} {s0 : Int32} {s1 : Int32} {Q : Int32 → xW → Prop} (H : ((s1 < s0) → L_132_62 V g Y l1 l2 l3 Q) ∧ (¬ (s1 < s0) → L_129_0 V g Y l1 (fun x2 Y1 => (((l3 &&& 2) = 0) → L_132_55 V g Y1 l1 l2 l3 x2 0 Q) ∧ (¬ ((l3 &&& 2) = 0) → L_132_55 V g Y1 l1 l2 l3 x2 7 Q)))) : L_132_36 V g Y l1 l2 l3 s0 s1 Q := by
  intro h lv R e0 e1 e2 e3
  by_cases hc : s1 < s0
  · replace H := H.1 hc
    refine y_next (xst_of (i := (.if_icmp .gt 26)) (len := 3) rfl rfl (xt_icmp_gt (t := 62) rfl hc)) ?_
    exact H _ _ R e0 e1 e2 e3
  · replace H := H.2 hc
    refine y_next (pc' := 39) (xst_of (i := (.if_icmp .gt 26)) (len := 3) rfl rfl (xf_icmp_gt (t := 62) rfl hc)) ?_
    refine y_next (pc' := 40) (xst_of (i := (.iload_n 1)) (len := 1) rfl rfl (x_ilo e1)) ?_
    refine z_cI (k := 129) (i := (.invokestatic 151)) (as := [.int l1]) (rest := []) rfl rfl rfl (H _ _ R rfl) (fun x2 h Y1 R H => ?_)
    refine y_next (pc' := 44) (xst_of (i := (.iload_n 3)) (len := 1) rfl rfl (x_ilo e3)) ?_
    refine y_next (pc' := 45) (xst_of (i := (.iconst 2)) (len := 1) rfl rfl (x_ico (v := 2) (by decide))) ?_
    refine y_next (pc' := 46) (xst_of (i := .iand) (len := 1) rfl rfl rfl) ?_
    by_cases hc : (l3 &&& 2) = 0
    · replace H := H.1 hc
      refine y_next (xst_of (i := (.ifCond .eq 8)) (len := 3) rfl rfl (xt_if_eq (t := 54) rfl hc)) ?_
      refine y_next (pc' := 55) (xst_of (i := (.iconst 0)) (len := 1) rfl rfl (x_ico (v := 0) (by decide))) ?_
      exact H _ _ R e0 e1 e2 e3
    · replace H := H.2 hc
      refine y_next (pc' := 49) (xst_of (i := (.ifCond .eq 8)) (len := 3) rfl rfl (xf_if_eq (t := 54) rfl hc)) ?_
      refine y_next (pc' := 51) (xst_of (i := (.bipush 7)) (len := 2) rfl rfl (x_bip (v := 7) (by decide))) ?_
      refine y_next (pc' := 55) (xst_of (i := (.goto 4)) (len := 3) rfl rfl rfl) ?_
      exact H _ _ R e0 e1 e2 e3
theorem l_132_55 {V : xV} {g : xG} {Y : xW} {l1 : Int32} {l2 : Int32} {l3 : Int32} {s0 : Int32} {s1 : Int32} {Q : Int32 → xW → Prop} (H : ((s1 < s0) → L_132_62 V g Y l1 l2 l3 Q) ∧ (¬ (s1 < s0) → L_132_63 V g Y l1 l2 l3 1 Q)) : L_132_55 V g Y l1 l2 l3 s0 s1 Q := by
  intro h lv R e0 e1 e2 e3
  by_cases hc : s1 < s0
  · replace H := H.1 hc
    refine y_next (xst_of (i := (.if_icmp .gt 7)) (len := 3) rfl rfl (xt_icmp_gt (t := 62) rfl hc)) ?_
    exact H _ _ R e0 e1 e2 e3
  · replace H := H.2 hc
    refine y_next (pc' := 58) (xst_of (i := (.if_icmp .gt 7)) (len := 3) rfl rfl (xf_icmp_gt (t := 62) rfl hc)) ?_
    refine y_next (pc' := 59) (xst_of (i := (.iconst 1)) (len := 1) rfl rfl (x_ico (v := 1) (by decide))) ?_
    refine y_next (pc' := 63) (xst_of (i := (.goto 4)) (len := 3) rfl rfl rfl) ?_
    exact H _ _ R e0 e1 e2 e3
theorem l_132_62 {V : xV} {g : xG} {Y : xW} {l1 : Int32} {l2 : Int32} {l3 : Int32} {Q : Int32 → xW → Prop} (H : L_132_63 V g Y l1 l2 l3 0 Q) : L_132_62 V g Y l1 l2 l3 Q := by
  intro h lv R e0 e1 e2 e3
  refine y_next (pc' := 63) (xst_of (i := (.iconst 0)) (len := 1) rfl rfl (x_ico (v := 0) (by decide))) ?_
  exact H _ _ R e0 e1 e2 e3
theorem l_132_63 {V : xV} {g : xG} {Y : xW} {l1 : Int32} {l2 : Int32} {l3 : Int32} {s0 : Int32} {Q : Int32 → xW → Prop} (H : (((l3 &&& 8) = 0) → ((s0 = 0) → L_132_134 V g Y l1 l2 l3 s0 Q) ∧ (¬ (s0 = 0) → (((l1 &&& 4095) = 0) → L_131_0 V g Y l1 (fun x2 Y1 => (((l3 &&& 4) = 0) → L_132_127 V g Y1 l1 l2 l3 s0 x2 0 Q) ∧ (¬ ((l3 &&& 4) = 0) → L_132_127 V g Y1 l1 l2 l3 s0 x2 7 Q))) ∧ (¬ ((l1 &&& 4095) = 0) → L_132_134 V g Y l1 l2 l3 s0 Q))) ∧ (¬ ((l3 &&& 8) = 0) → ((s0 = 0) → L_132_96 V g Y l1 l2 l3 s0 Q) ∧ (¬ (s0 = 0) → ((l2 = 11) → L_130_0 V g Y l1 (fun x4 Y3 => ((31 < x4) → L_132_96 V g Y3 l1 l2 l3 s0 Q) ∧ (¬ (31 < x4) → L_132_92 V g Y3 l1 l2 l3 s0 Q))) ∧ (¬ (l2 = 11) → L_132_92 V g Y l1 l2 l3 s0 Q)))) : L_132_63 V g Y l1 l2 l3 s0 Q := by
  intro h lv R e0 e1 e2 e3
  refine z_is (i := (.istore 4)) (len := 2) (pc' := 65) (q := 4) rfl rfl rfl (by decide) (fun lv1 hlv => ?_)
  have e0 := xs1_A hlv e0 rfl rfl
  have e1 := xs1_A hlv e1 rfl rfl
  have e2 := xs1_A hlv e2 rfl rfl
  have e3 := xs1_B hlv e3 rfl rfl
  have e4 := xs1_N hlv
  clear hlv
  refine y_next (pc' := 66) (xst_of (i := (.iload_n 3)) (len := 1) rfl rfl (x_ilo e3)) ?_
  refine y_next (pc' := 68) (xst_of (i := (.bipush 8)) (len := 2) rfl rfl (x_bip (v := 8) (by decide))) ?_
  refine y_next (pc' := 69) (xst_of (i := .iand) (len := 1) rfl rfl rfl) ?_
  by_cases hc : (l3 &&& 8) = 0
  · replace H := H.1 hc
    refine y_next (xst_of (i := (.ifCond .eq 29)) (len := 3) rfl rfl (xt_if_eq (t := 98) rfl hc)) ?_
    refine y_next (pc' := 100) (xst_of (i := (.iload 4)) (len := 2) rfl rfl (x_ilo e4)) ?_
    by_cases hc : s0 = 0
    · replace H := H.1 hc
      refine y_next (xst_of (i := (.ifCond .eq 34)) (len := 3) rfl rfl (xt_if_eq (t := 134) rfl hc)) ?_
      exact H _ _ R e0 e1 e2 e3 e4
    · replace H := H.2 hc
      refine y_next (pc' := 103) (xst_of (i := (.ifCond .eq 34)) (len := 3) rfl rfl (xf_if_eq (t := 134) rfl hc)) ?_
      refine y_next (pc' := 104) (xst_of (i := (.iload_n 1)) (len := 1) rfl rfl (x_ilo e1)) ?_
      refine y_next (pc' := 107) (xst_of (i := (.sipush 4095)) (len := 3) rfl rfl (x_sip (v := 4095) (by decide))) ?_
      refine y_next (pc' := 108) (xst_of (i := .iand) (len := 1) rfl rfl rfl) ?_
      by_cases hc : (l1 &&& 4095) = 0
      · replace H := H.1 hc
        refine y_next (pc' := 111) (xst_of (i := (.ifCond .ne 26)) (len := 3) rfl rfl (xf_if_ne (t := 134) rfl (fun z => z hc))) ?_
        refine y_next (pc' := 112) (xst_of (i := (.iload_n 1)) (len := 1) rfl rfl (x_ilo e1)) ?_
        refine z_cI (k := 131) (i := (.invokestatic 157)) (as := [.int l1]) (rest := []) rfl rfl rfl (H _ _ R rfl) (fun x2 h Y1 R H => ?_)
        refine y_next (pc' := 116) (xst_of (i := (.iload_n 3)) (len := 1) rfl rfl (x_ilo e3)) ?_
        refine y_next (pc' := 117) (xst_of (i := (.iconst 4)) (len := 1) rfl rfl (x_ico (v := 4) (by decide))) ?_
        refine y_next (pc' := 118) (xst_of (i := .iand) (len := 1) rfl rfl rfl) ?_
        by_cases hc : (l3 &&& 4) = 0
        · replace H := H.1 hc
          refine y_next (xst_of (i := (.ifCond .eq 8)) (len := 3) rfl rfl (xt_if_eq (t := 126) rfl hc)) ?_
          refine y_next (pc' := 127) (xst_of (i := (.iconst 0)) (len := 1) rfl rfl (x_ico (v := 0) (by decide))) ?_
          exact H _ _ R e0 e1 e2 e3 e4
        · replace H := H.2 hc
          refine y_next (pc' := 121) (xst_of (i := (.ifCond .eq 8)) (len := 3) rfl rfl (xf_if_eq (t := 126) rfl hc)) ?_
          refine y_next (pc' := 123) (xst_of (i := (.bipush 7)) (len := 2) rfl rfl (x_bip (v := 7) (by decide))) ?_
          refine y_next (pc' := 127) (xst_of (i := (.goto 4)) (len := 3) rfl rfl rfl) ?_
          exact H _ _ R e0 e1 e2 e3 e4
      · replace H := H.2 hc
        refine y_next (xst_of (i := (.ifCond .ne 26)) (len := 3) rfl rfl (xt_if_ne (t := 134) rfl hc)) ?_
        exact H _ _ R e0 e1 e2 e3 e4
  · replace H := H.2 hc
    refine y_next (pc' := 72) (xst_of (i := (.ifCond .eq 29)) (len := 3) rfl rfl (xf_if_eq (t := 98) rfl hc)) ?_
    refine y_next (pc' := 74) (xst_of (i := (.iload 4)) (len := 2) rfl rfl (x_ilo e4)) ?_
    by_cases hc : s0 = 0
    · replace H := H.1 hc
      refine y_next (xst_of (i := (.ifCond .eq 22)) (len := 3) rfl rfl (xt_if_eq (t := 96) rfl hc)) ?_
      exact H _ _ R e0 e1 e2 e3 e4
    · replace H := H.2 hc
      refine y_next (pc' := 77) (xst_of (i := (.ifCond .eq 22)) (len := 3) rfl rfl (xf_if_eq (t := 96) rfl hc)) ?_
      refine y_next (pc' := 78) (xst_of (i := (.iload_n 2)) (len := 1) rfl rfl (x_ilo e2)) ?_
      refine y_next (pc' := 80) (xst_of (i := (.bipush 11)) (len := 2) rfl rfl (x_bip (v := 11) (by decide))) ?_
      by_cases hc : l2 = 11
      · replace H := H.1 hc
        refine y_next (pc' := 83) (xst_of (i := (.if_icmp .ne 12)) (len := 3) rfl rfl (xf_icmp_ne (t := 92) rfl (fun z => z hc))) ?_
        refine y_next (pc' := 84) (xst_of (i := (.iload_n 1)) (len := 1) rfl rfl (x_ilo e1)) ?_
        refine z_cI (k := 130) (i := (.invokestatic 154)) (as := [.int l1]) (rest := []) rfl rfl rfl (H _ _ R rfl) (fun x4 h Y3 R H => ?_)
        refine y_next (pc' := 89) (xst_of (i := (.bipush 31)) (len := 2) rfl rfl (x_bip (v := 31) (by decide))) ?_
        by_cases hc : 31 < x4
        · replace H := H.1 hc
          refine y_next (xst_of (i := (.if_icmp .gt 7)) (len := 3) rfl rfl (xt_icmp_gt (t := 96) rfl hc)) ?_
          exact H _ _ R e0 e1 e2 e3 e4
        · replace H := H.2 hc
          refine y_next (pc' := 92) (xst_of (i := (.if_icmp .gt 7)) (len := 3) rfl rfl (xf_icmp_gt (t := 96) rfl hc)) ?_
          exact H _ _ R e0 e1 e2 e3 e4
      · replace H := H.2 hc
        refine y_next (xst_of (i := (.if_icmp .ne 12)) (len := 3) rfl rfl (xt_icmp_ne (t := 92) rfl hc)) ?_
        exact H _ _ R e0 e1 e2 e3 e4
theorem l_132_92 {V : xV} {g : xG} {Y : xW} {l1 : Int32} {l2 : Int32} {l3 : Int32} {l4 : Int32} {Q : Int32 → xW → Prop} (H : L_132_97 V g Y l1 l2 l3 l4 1 Q) : L_132_92 V g Y l1 l2 l3 l4 Q := by
  intro h lv R e0 e1 e2 e3 e4
  refine y_next (pc' := 93) (xst_of (i := (.iconst 1)) (len := 1) rfl rfl (x_ico (v := 1) (by decide))) ?_
  refine y_next (pc' := 97) (xst_of (i := (.goto 4)) (len := 3) rfl rfl rfl) ?_
  exact H _ _ R e0 e1 e2 e3 e4
theorem l_132_96 {V : xV} {g : xG} {Y : xW} {l1 : Int32} {l2 : Int32} {l3 : Int32} {l4 : Int32} {Q : Int32 → xW → Prop} (H : L_132_97 V g Y l1 l2 l3 l4 0 Q) : L_132_96 V g Y l1 l2 l3 l4 Q := by
  intro h lv R e0 e1 e2 e3 e4
  refine y_next (pc' := 97) (xst_of (i := (.iconst 0)) (len := 1) rfl rfl (x_ico (v := 0) (by decide))) ?_
  exact H _ _ R e0 e1 e2 e3 e4
theorem l_132_97 {V : xV} {g : xG} {Y : xW} {l1 : Int32} {l2 : Int32} {l3 : Int32} {l4 : Int32} {s0 : Int32} {Q : Int32 → xW → Prop} (H : (s0 = 0 ∨ s0 = 1) ∧ Q s0 Y) : L_132_97 V g Y l1 l2 l3 l4 s0 Q := by
  intro h lv R e0 e1 e2 e3 e4
  exact y_ret (xst_of (i := .ireturn) (len := 1) rfl rfl (x_zret rfl H.1)) ⟨_, _, rfl, R, H.2⟩
theorem l_132_127 {V : xV} {g : xG} {Y : xW} {l1 : Int32} {l2 : Int32} {l3 : Int32} {l4 : Int32} {s0 : Int32} {s1 : Int32} {Q : Int32 → xW → Prop} (H : ((s1 < s0) → L_132_134 V g Y l1 l2 l3 l4 Q) ∧ (¬ (s1 < s0) → L_132_135 V g Y l1 l2 l3 l4 1 Q)) : L_132_127 V g Y l1 l2 l3 l4 s0 s1 Q := by
  intro h lv R e0 e1 e2 e3 e4
  by_cases hc : s1 < s0
  · replace H := H.1 hc
    refine y_next (xst_of (i := (.if_icmp .gt 7)) (len := 3) rfl rfl (xt_icmp_gt (t := 134) rfl hc)) ?_
    exact H _ _ R e0 e1 e2 e3 e4
  · replace H := H.2 hc
    refine y_next (pc' := 130) (xst_of (i := (.if_icmp .gt 7)) (len := 3) rfl rfl (xf_icmp_gt (t := 134) rfl hc)) ?_
    refine y_next (pc' := 131) (xst_of (i := (.iconst 1)) (len := 1) rfl rfl (x_ico (v := 1) (by decide))) ?_
    refine y_next (pc' := 135) (xst_of (i := (.goto 4)) (len := 3) rfl rfl rfl) ?_
    exact H _ _ R e0 e1 e2 e3 e4
theorem l_132_134 {V : xV} {g : xG} {Y : xW} {l1 : Int32} {l2 : Int32} {l3 : Int32} {l4 : Int32} {Q : Int32 → xW → Prop} (H : L_132_135 V g Y l1 l2 l3 l4 0 Q) : L_132_134 V g Y l1 l2 l3 l4 Q := by
  intro h lv R e0 e1 e2 e3 e4
  refine y_next (pc' := 135) (xst_of (i := (.iconst 0)) (len := 1) rfl rfl (x_ico (v := 0) (by decide))) ?_
  exact H _ _ R e0 e1 e2 e3 e4
theorem l_132_135 {V : xV} {g : xG} {Y : xW} {l1 : Int32} {l2 : Int32} {l3 : Int32} {l4 : Int32} {s0 : Int32} {Q : Int32 → xW → Prop} (H : (s0 = 0 ∨ s0 = 1) ∧ Q s0 Y) : L_132_135 V g Y l1 l2 l3 l4 s0 Q := by
  intro h lv R e0 e1 e2 e3 e4
  exact y_ret (xst_of (i := .ireturn) (len := 1) rfl rfl (x_zret rfl H.1)) ⟨_, _, rfl, R, H.2⟩
theorem l_133_0 {V : xV} {g : xG} {Y : xW} {l1 : Int32} {Q : Int32 → xW → Prop} (H : ∀ Y1, Y1 = uI Y (10, 0, 0) 2 0 → (((fI Y1 (10, 0, 0) 5) < 0) → L_133_45 V g Y1 l1 Q) ∧ (¬ ((fI Y1 (10, 0, 0) 5) < 0) → L_132_0 V g Y1 l1 (fun x3 Y2 => ((x3 = 0) → L_133_45 V g Y2 l1 Q) ∧ (¬ (x3 = 0) → vp_in (fI Y2 (10, 0, 0) 5) 24 ∧ (((fA Y2 (10, 0, 0) 8 (Int32.toNatClampNeg (fI Y2 (10, 0, 0) 5))) = 200) → L_133_45 V g Y2 l1 Q) ∧ (¬ ((fA Y2 (10, 0, 0) 8 (Int32.toNatClampNeg (fI Y2 (10, 0, 0) 5))) = 200) → (((fI Y2 (10, 0, 0) 4) = 2000) → L_133_45 V g Y2 l1 Q) ∧ (¬ ((fI Y2 (10, 0, 0) 4) = 2000) → vp_in (fI Y2 (10, 0, 0) 5) 24 ∧ vp_in ((200 * (fI Y2 (10, 0, 0) 5)) + (fA Y2 (10, 0, 0) 8 (Int32.toNatClampNeg (fI Y2 (10, 0, 0) 5)))) 4800 ∧ ∀ Y4, Y4 = uA Y2 (10, 0, 0) 12 (Int32.toNatClampNeg ((200 * (fI Y2 (10, 0, 0) 5)) + (fA Y2 (10, 0, 0) 8 (Int32.toNatClampNeg (fI Y2 (10, 0, 0) 5))))) l1 → vp_in (fI Y4 (10, 0, 0) 5) 24 ∧ vp_in (fI Y4 (10, 0, 0) 5) 24 ∧ ∀ Y5, Y5 = uA Y4 (10, 0, 0) 8 (Int32.toNatClampNeg (fI Y4 (10, 0, 0) 5)) ((fA Y4 (10, 0, 0) 8 (Int32.toNatClampNeg (fI Y4 (10, 0, 0) 5))) + 1) → ∀ Y6, Y6 = uI Y5 (10, 0, 0) 4 ((fI Y5 (10, 0, 0) 4) + 1) → vp_in (fI Y6 (10, 0, 0) 5) 24 ∧ Q ((fA Y6 (10, 0, 0) 8 (Int32.toNatClampNeg (fI Y6 (10, 0, 0) 5))) - 1) Y6)))))) : L_133_0 V g Y l1 Q := by
  intro h lv R e0 e1
  refine y_next (pc' := 1) (xst_of (i := (.aload_n 0)) (len := 1) rfl rfl (x_aloadV (xisV_r _) e0)) ?_
  refine y_next (pc' := 2) (xst_of (i := (.iconst 0)) (len := 1) rfl rfl (x_ico (v := 0) (by decide))) ?_
  refine z_pI (t := (10, 0, 0)) (k := 2) rfl rfl rfl rfl rfl R (rc_10 R) (fun h Y1 hY R => ?_)
  replace H := H Y1 hY
  clear hY
  refine y_next (pc' := 6) (xst_of (i := (.aload_n 0)) (len := 1) rfl rfl (x_aloadV (xisV_r _) e0)) ?_
  refine z_gI (t := (10, 0, 0)) (k := 5) rfl rfl rfl R (rc_10 R) ?_
  by_cases hc : (fI Y1 (10, 0, 0) 5) < 0
  · replace H := H.1 hc
    refine y_next (xst_of (i := (.ifCond .lt 36)) (len := 3) rfl rfl (xt_if_lt (t := 45) rfl hc)) ?_
    exact H _ _ R e0 e1
  · replace H := H.2 hc
    refine y_next (pc' := 12) (xst_of (i := (.ifCond .lt 36)) (len := 3) rfl rfl (xf_if_lt (t := 45) rfl hc)) ?_
    refine y_next (pc' := 13) (xst_of (i := (.aload_n 0)) (len := 1) rfl rfl (x_aloadV (xisV_r _) e0)) ?_
    refine y_next (pc' := 14) (xst_of (i := (.iload_n 1)) (len := 1) rfl rfl (x_ilo e1)) ?_
    refine z_cI (k := 132) (i := (.invokevirtual 160)) (as := [.ref (g.2 (10, 0, 0) 0), .int l1]) (rest := []) rfl rfl (x_callv rfl rfl (rc_ob R (rc_10 R) rfl) rfl rfl) (H _ _ R rfl rfl) (fun x3 h Y2 R H => ?_)
    by_cases hc : x3 = 0
    · replace H := H.1 hc
      refine y_next (xst_of (i := (.ifCond .eq 28)) (len := 3) rfl rfl (xt_if_eq (t := 45) rfl hc)) ?_
      exact H _ _ R e0 e1
    · replace H := H.2 hc
      refine y_next (pc' := 20) (xst_of (i := (.ifCond .eq 28)) (len := 3) rfl rfl (xf_if_eq (t := 45) rfl hc)) ?_
      refine y_next (pc' := 21) (xst_of (i := (.aload_n 0)) (len := 1) rfl rfl (x_aloadV (xisV_r _) e0)) ?_
      refine z_gA (t := (10, 0, 0)) (k := 8) rfl rfl rfl R (rc_10 R) ?_
      refine y_next (pc' := 25) (xst_of (i := (.aload_n 0)) (len := 1) rfl rfl (x_aloadV (xisV_r _) e0)) ?_
      refine z_gI (t := (10, 0, 0)) (k := 5) rfl rfl rfl R (rc_10 R) ?_
      refine z_aI (t := (10, 0, 0)) (k := 8) (n := 24) (i := (fI Y2 (10, 0, 0) 5)) rfl rfl R (rc_10 R) H.1 ?_
      replace H := H.2
      refine y_next (pc' := 32) (xst_of (i := (.sipush 200)) (len := 3) rfl rfl (x_sip (v := 200) (by decide))) ?_
      by_cases hc : (fA Y2 (10, 0, 0) 8 (Int32.toNatClampNeg (fI Y2 (10, 0, 0) 5))) = 200
      · replace H := H.1 hc
        refine y_next (xst_of (i := (.if_icmp .eq 13)) (len := 3) rfl rfl (xt_icmp_eq (t := 45) rfl hc)) ?_
        exact H _ _ R e0 e1
      · replace H := H.2 hc
        refine y_next (pc' := 35) (xst_of (i := (.if_icmp .eq 13)) (len := 3) rfl rfl (xf_icmp_eq (t := 45) rfl hc)) ?_
        refine y_next (pc' := 36) (xst_of (i := (.aload_n 0)) (len := 1) rfl rfl (x_aloadV (xisV_r _) e0)) ?_
        refine z_gI (t := (10, 0, 0)) (k := 4) rfl rfl rfl R (rc_10 R) ?_
        refine y_next (pc' := 42) (xst_of (i := (.sipush 2000)) (len := 3) rfl rfl (x_sip (v := 2000) (by decide))) ?_
        by_cases hc : (fI Y2 (10, 0, 0) 4) = 2000
        · replace H := H.1 hc
          refine y_next (pc' := 45) (xst_of (i := (.if_icmp .ne 5)) (len := 3) rfl rfl (xf_icmp_ne (t := 47) rfl (fun z => z hc))) ?_
          exact H _ _ R e0 e1
        · replace H := H.2 hc
          refine y_next (xst_of (i := (.if_icmp .ne 5)) (len := 3) rfl rfl (xt_icmp_ne (t := 47) rfl hc)) ?_
          refine y_next (pc' := 48) (xst_of (i := (.aload_n 0)) (len := 1) rfl rfl (x_aloadV (xisV_r _) e0)) ?_
          refine z_gA (t := (10, 0, 0)) (k := 12) rfl rfl rfl R (rc_10 R) ?_
          refine y_next (pc' := 54) (xst_of (i := (.sipush 200)) (len := 3) rfl rfl (x_sip (v := 200) (by decide))) ?_
          refine y_next (pc' := 55) (xst_of (i := (.aload_n 0)) (len := 1) rfl rfl (x_aloadV (xisV_r _) e0)) ?_
          refine z_gI (t := (10, 0, 0)) (k := 5) rfl rfl rfl R (rc_10 R) ?_
          refine y_next (pc' := 59) (xst_of (i := .imul) (len := 1) rfl rfl rfl) ?_
          refine y_next (pc' := 60) (xst_of (i := (.aload_n 0)) (len := 1) rfl rfl (x_aloadV (xisV_r _) e0)) ?_
          refine z_gA (t := (10, 0, 0)) (k := 8) rfl rfl rfl R (rc_10 R) ?_
          refine y_next (pc' := 64) (xst_of (i := (.aload_n 0)) (len := 1) rfl rfl (x_aloadV (xisV_r _) e0)) ?_
          refine z_gI (t := (10, 0, 0)) (k := 5) rfl rfl rfl R (rc_10 R) ?_
          refine z_aI (t := (10, 0, 0)) (k := 8) (n := 24) (i := (fI Y2 (10, 0, 0) 5)) rfl rfl R (rc_10 R) H.1 ?_
          replace H := H.2
          refine y_next (pc' := 69) (xst_of (i := .iadd) (len := 1) rfl rfl rfl) ?_
          refine y_next (pc' := 70) (xst_of (i := (.iload_n 1)) (len := 1) rfl rfl (x_ilo e1)) ?_
          refine z_sI (t := (10, 0, 0)) (k := 12) (n := 4800) (i := ((200 * (fI Y2 (10, 0, 0) 5)) + (fA Y2 (10, 0, 0) 8 (Int32.toNatClampNeg (fI Y2 (10, 0, 0) 5))))) rfl rfl R (rc_10 R) H.1 (fun h Y4 hY R => ?_)
          replace H := H.2 Y4 hY
          clear hY
          refine y_next (pc' := 72) (xst_of (i := (.aload_n 0)) (len := 1) rfl rfl (x_aloadV (xisV_r _) e0)) ?_
          refine z_gA (t := (10, 0, 0)) (k := 8) rfl rfl rfl R (rc_10 R) ?_
          refine y_next (pc' := 76) (xst_of (i := (.aload_n 0)) (len := 1) rfl rfl (x_aloadV (xisV_r _) e0)) ?_
          refine z_gI (t := (10, 0, 0)) (k := 5) rfl rfl rfl R (rc_10 R) ?_
          refine y_next (pc' := 80) (xst_of (i := .dup2) (len := 1) rfl rfl (x_dup2 rfl rfl)) ?_
          refine z_aI (t := (10, 0, 0)) (k := 8) (n := 24) (i := (fI Y4 (10, 0, 0) 5)) rfl rfl R (rc_10 R) H.1 ?_
          replace H := H.2
          refine y_next (pc' := 82) (xst_of (i := (.iconst 1)) (len := 1) rfl rfl (x_ico (v := 1) (by decide))) ?_
          refine y_next (pc' := 83) (xst_of (i := .iadd) (len := 1) rfl rfl rfl) ?_
          refine z_sI (t := (10, 0, 0)) (k := 8) (n := 24) (i := (fI Y4 (10, 0, 0) 5)) rfl rfl R (rc_10 R) H.1 (fun h Y5 hY R => ?_)
          replace H := H.2 Y5 hY
          clear hY
          refine y_next (pc' := 85) (xst_of (i := (.aload_n 0)) (len := 1) rfl rfl (x_aloadV (xisV_r _) e0)) ?_
          refine y_next (pc' := 86) (xst_of (i := .dup) (len := 1) rfl rfl (x_dup rfl)) ?_
          refine z_gI (t := (10, 0, 0)) (k := 4) rfl rfl rfl R (rc_10 R) ?_
          refine y_next (pc' := 90) (xst_of (i := (.iconst 1)) (len := 1) rfl rfl (x_ico (v := 1) (by decide))) ?_
          refine y_next (pc' := 91) (xst_of (i := .iadd) (len := 1) rfl rfl rfl) ?_
          refine z_pI (t := (10, 0, 0)) (k := 4) rfl rfl rfl rfl rfl R (rc_10 R) (fun h Y6 hY R => ?_)
          replace H := H Y6 hY
          clear hY
          refine y_next (pc' := 95) (xst_of (i := (.aload_n 0)) (len := 1) rfl rfl (x_aloadV (xisV_r _) e0)) ?_
          refine z_gA (t := (10, 0, 0)) (k := 8) rfl rfl rfl R (rc_10 R) ?_
          refine y_next (pc' := 99) (xst_of (i := (.aload_n 0)) (len := 1) rfl rfl (x_aloadV (xisV_r _) e0)) ?_
          refine z_gI (t := (10, 0, 0)) (k := 5) rfl rfl rfl R (rc_10 R) ?_
          refine z_aI (t := (10, 0, 0)) (k := 8) (n := 24) (i := (fI Y6 (10, 0, 0) 5)) rfl rfl R (rc_10 R) H.1 ?_
          replace H := H.2
          refine y_next (pc' := 104) (xst_of (i := (.iconst 1)) (len := 1) rfl rfl (x_ico (v := 1) (by decide))) ?_
          refine y_next (pc' := 105) (xst_of (i := .isub) (len := 1) rfl rfl rfl) ?_
          exact y_ret (xst_of (i := .ireturn) (len := 1) rfl rfl rfl) ⟨_, _, rfl, R, H⟩
theorem l_133_45 {V : xV} {g : xG} {Y : xW} {l1 : Int32} {Q : Int32 → xW → Prop} (H : Q (-1) Y) : L_133_45 V g Y l1 Q := by
  intro h lv R e0 e1
  refine y_next (pc' := 46) (xst_of (i := (.iconst (-1))) (len := 1) rfl rfl (x_ico (v := (-1)) (by decide))) ?_
  exact y_ret (xst_of (i := .ireturn) (len := 1) rfl rfl rfl) ⟨_, _, rfl, R, H⟩
theorem l_134_0 {V : xV} {g : xG} {Y : xW} {l1 : Int32} {Q : Int32 → xW → Prop} (H : ((l1 < 0) → L_134_21 V g Y l1 Q) ∧ (¬ (l1 < 0) → vp_in (fI Y (10, 0, 0) 5) 24 ∧ (((fA Y (10, 0, 0) 9 (Int32.toNatClampNeg (fI Y (10, 0, 0) 5))) ≤ l1) → L_134_21 V g Y l1 Q) ∧ (¬ ((fA Y (10, 0, 0) 9 (Int32.toNatClampNeg (fI Y (10, 0, 0) 5))) ≤ l1) → L_134_22 V g Y l1 1 Q))) : L_134_0 V g Y l1 Q := by
  intro h lv R e0 e1
  refine y_next (pc' := 1) (xst_of (i := (.iload_n 1)) (len := 1) rfl rfl (x_ilo e1)) ?_
  by_cases hc : l1 < 0
  · replace H := H.1 hc
    refine y_next (xst_of (i := (.ifCond .lt 20)) (len := 3) rfl rfl (xt_if_lt (t := 21) rfl hc)) ?_
    exact H _ _ R e0 e1
  · replace H := H.2 hc
    refine y_next (pc' := 4) (xst_of (i := (.ifCond .lt 20)) (len := 3) rfl rfl (xf_if_lt (t := 21) rfl hc)) ?_
    refine y_next (pc' := 5) (xst_of (i := (.iload_n 1)) (len := 1) rfl rfl (x_ilo e1)) ?_
    refine y_next (pc' := 6) (xst_of (i := (.aload_n 0)) (len := 1) rfl rfl (x_aloadV (xisV_r _) e0)) ?_
    refine z_gA (t := (10, 0, 0)) (k := 9) rfl rfl rfl R (rc_10 R) ?_
    refine y_next (pc' := 10) (xst_of (i := (.aload_n 0)) (len := 1) rfl rfl (x_aloadV (xisV_r _) e0)) ?_
    refine z_gI (t := (10, 0, 0)) (k := 5) rfl rfl rfl R (rc_10 R) ?_
    refine z_aI (t := (10, 0, 0)) (k := 9) (n := 24) (i := (fI Y (10, 0, 0) 5)) rfl rfl R (rc_10 R) H.1 ?_
    replace H := H.2
    by_cases hc : (fA Y (10, 0, 0) 9 (Int32.toNatClampNeg (fI Y (10, 0, 0) 5))) ≤ l1
    · replace H := H.1 hc
      refine y_next (xst_of (i := (.if_icmp .ge 7)) (len := 3) rfl rfl (xt_icmp_ge (t := 21) rfl hc)) ?_
      exact H _ _ R e0 e1
    · replace H := H.2 hc
      refine y_next (pc' := 17) (xst_of (i := (.if_icmp .ge 7)) (len := 3) rfl rfl (xf_icmp_ge (t := 21) rfl hc)) ?_
      refine y_next (pc' := 18) (xst_of (i := (.iconst 1)) (len := 1) rfl rfl (x_ico (v := 1) (by decide))) ?_
      refine y_next (pc' := 22) (xst_of (i := (.goto 4)) (len := 3) rfl rfl rfl) ?_
      exact H _ _ R e0 e1
theorem l_134_21 {V : xV} {g : xG} {Y : xW} {l1 : Int32} {Q : Int32 → xW → Prop} (H : L_134_22 V g Y l1 0 Q) : L_134_21 V g Y l1 Q := by
  intro h lv R e0 e1
  refine y_next (pc' := 22) (xst_of (i := (.iconst 0)) (len := 1) rfl rfl (x_ico (v := 0) (by decide))) ?_
  exact H _ _ R e0 e1
theorem l_134_22 {V : xV} {g : xG} {Y : xW} {l1 : Int32} {s0 : Int32} {Q : Int32 → xW → Prop} (H : (s0 = 0 ∨ s0 = 1) ∧ Q s0 Y) : L_134_22 V g Y l1 s0 Q := by
  intro h lv R e0 e1
  exact y_ret (xst_of (i := .ireturn) (len := 1) rfl rfl (x_zret rfl H.1)) ⟨_, _, rfl, R, H.2⟩
theorem l_135_0 {V : xV} {g : xG} {Y : xW} {l1 : Int32} {l2 : Int32} {Q : Int32 → xW → Prop} (H : ∀ Y1, Y1 = uI Y (10, 0, 0) 2 0 → (((fI Y1 (10, 0, 0) 5) < 0) → L_135_37 V g Y1 l1 l2 Q) ∧ (¬ ((fI Y1 (10, 0, 0) 5) < 0) → ((l1 < 0) → L_135_37 V g Y1 l1 l2 Q) ∧ (¬ (l1 < 0) → vp_in (fI Y1 (10, 0, 0) 5) 24 ∧ (((fA Y1 (10, 0, 0) 8 (Int32.toNatClampNeg (fI Y1 (10, 0, 0) 5))) ≤ l1) → L_135_37 V g Y1 l1 l2 Q) ∧ (¬ ((fA Y1 (10, 0, 0) 8 (Int32.toNatClampNeg (fI Y1 (10, 0, 0) 5))) ≤ l1) → L_134_0 V g Y1 l2 (fun x3 Y2 => ((x3 = 0) → L_135_37 V g Y2 l1 l2 Q) ∧ (¬ (x3 = 0) → vp_in ((200 * (fI Y2 (10, 0, 0) 5)) + l1) 4800 ∧ ∀ Y4, Y4 = uA Y2 (10, 0, 0) 13 (Int32.toNatClampNeg ((200 * (fI Y2 (10, 0, 0) 5)) + l1)) l2 → L_135_60 V g Y4 l1 l2 ((200 * (fI Y2 (10, 0, 0) 5)) + l1) 0 Q)))))) : L_135_0 V g Y l1 l2 Q := by
  intro h lv R e0 e1 e2
  refine y_next (pc' := 1) (xst_of (i := (.aload_n 0)) (len := 1) rfl rfl (x_aloadV (xisV_r _) e0)) ?_
  refine y_next (pc' := 2) (xst_of (i := (.iconst 0)) (len := 1) rfl rfl (x_ico (v := 0) (by decide))) ?_
  refine z_pI (t := (10, 0, 0)) (k := 2) rfl rfl rfl rfl rfl R (rc_10 R) (fun h Y1 hY R => ?_)
  replace H := H Y1 hY
  clear hY
  refine y_next (pc' := 6) (xst_of (i := (.aload_n 0)) (len := 1) rfl rfl (x_aloadV (xisV_r _) e0)) ?_
  refine z_gI (t := (10, 0, 0)) (k := 5) rfl rfl rfl R (rc_10 R) ?_
  by_cases hc : (fI Y1 (10, 0, 0) 5) < 0
  · replace H := H.1 hc
    refine y_next (xst_of (i := (.ifCond .lt 28)) (len := 3) rfl rfl (xt_if_lt (t := 37) rfl hc)) ?_
    exact H _ _ R e0 e1 e2
  · replace H := H.2 hc
    refine y_next (pc' := 12) (xst_of (i := (.ifCond .lt 28)) (len := 3) rfl rfl (xf_if_lt (t := 37) rfl hc)) ?_
    refine y_next (pc' := 13) (xst_of (i := (.iload_n 1)) (len := 1) rfl rfl (x_ilo e1)) ?_
    by_cases hc : l1 < 0
    · replace H := H.1 hc
      refine y_next (xst_of (i := (.ifCond .lt 24)) (len := 3) rfl rfl (xt_if_lt (t := 37) rfl hc)) ?_
      exact H _ _ R e0 e1 e2
    · replace H := H.2 hc
      refine y_next (pc' := 16) (xst_of (i := (.ifCond .lt 24)) (len := 3) rfl rfl (xf_if_lt (t := 37) rfl hc)) ?_
      refine y_next (pc' := 17) (xst_of (i := (.iload_n 1)) (len := 1) rfl rfl (x_ilo e1)) ?_
      refine y_next (pc' := 18) (xst_of (i := (.aload_n 0)) (len := 1) rfl rfl (x_aloadV (xisV_r _) e0)) ?_
      refine z_gA (t := (10, 0, 0)) (k := 8) rfl rfl rfl R (rc_10 R) ?_
      refine y_next (pc' := 22) (xst_of (i := (.aload_n 0)) (len := 1) rfl rfl (x_aloadV (xisV_r _) e0)) ?_
      refine z_gI (t := (10, 0, 0)) (k := 5) rfl rfl rfl R (rc_10 R) ?_
      refine z_aI (t := (10, 0, 0)) (k := 8) (n := 24) (i := (fI Y1 (10, 0, 0) 5)) rfl rfl R (rc_10 R) H.1 ?_
      replace H := H.2
      by_cases hc : (fA Y1 (10, 0, 0) 8 (Int32.toNatClampNeg (fI Y1 (10, 0, 0) 5))) ≤ l1
      · replace H := H.1 hc
        refine y_next (xst_of (i := (.if_icmp .ge 11)) (len := 3) rfl rfl (xt_icmp_ge (t := 37) rfl hc)) ?_
        exact H _ _ R e0 e1 e2
      · replace H := H.2 hc
        refine y_next (pc' := 29) (xst_of (i := (.if_icmp .ge 11)) (len := 3) rfl rfl (xf_icmp_ge (t := 37) rfl hc)) ?_
        refine y_next (pc' := 30) (xst_of (i := (.aload_n 0)) (len := 1) rfl rfl (x_aloadV (xisV_r _) e0)) ?_
        refine y_next (pc' := 31) (xst_of (i := (.iload_n 2)) (len := 1) rfl rfl (x_ilo e2)) ?_
        refine z_cI (k := 134) (i := (.invokevirtual 167)) (as := [.ref (g.2 (10, 0, 0) 0), .int l2]) (rest := []) rfl rfl (x_callv rfl rfl (rc_ob R (rc_10 R) rfl) rfl rfl) (H _ _ R rfl rfl) (fun x3 h Y2 R H => ?_)
        by_cases hc : x3 = 0
        · replace H := H.1 hc
          refine y_next (pc' := 37) (xst_of (i := (.ifCond .ne 5)) (len := 3) rfl rfl (xf_if_ne (t := 39) rfl (fun z => z hc))) ?_
          exact H _ _ R e0 e1 e2
        · replace H := H.2 hc
          refine y_next (xst_of (i := (.ifCond .ne 5)) (len := 3) rfl rfl (xt_if_ne (t := 39) rfl hc)) ?_
          refine y_next (pc' := 42) (xst_of (i := (.sipush 200)) (len := 3) rfl rfl (x_sip (v := 200) (by decide))) ?_
          refine y_next (pc' := 43) (xst_of (i := (.aload_n 0)) (len := 1) rfl rfl (x_aloadV (xisV_r _) e0)) ?_
          refine z_gI (t := (10, 0, 0)) (k := 5) rfl rfl rfl R (rc_10 R) ?_
          refine y_next (pc' := 47) (xst_of (i := .imul) (len := 1) rfl rfl rfl) ?_
          refine y_next (pc' := 48) (xst_of (i := (.iload_n 1)) (len := 1) rfl rfl (x_ilo e1)) ?_
          refine y_next (pc' := 49) (xst_of (i := .iadd) (len := 1) rfl rfl rfl) ?_
          refine z_is (i := (.istore_n 3)) (len := 1) (pc' := 50) (q := 3) rfl rfl rfl (by decide) (fun lv1 hlv => ?_)
          have e0 := xs1_A hlv e0 rfl rfl
          have e1 := xs1_A hlv e1 rfl rfl
          have e2 := xs1_B hlv e2 rfl rfl
          have e3 := xs1_N hlv
          clear hlv
          refine y_next (pc' := 51) (xst_of (i := (.aload_n 0)) (len := 1) rfl rfl (x_aloadV (xisV_r _) e0)) ?_
          refine z_gA (t := (10, 0, 0)) (k := 13) rfl rfl rfl R (rc_10 R) ?_
          refine y_next (pc' := 55) (xst_of (i := (.iload_n 3)) (len := 1) rfl rfl (x_ilo e3)) ?_
          refine y_next (pc' := 56) (xst_of (i := (.iload_n 2)) (len := 1) rfl rfl (x_ilo e2)) ?_
          refine z_sI (t := (10, 0, 0)) (k := 13) (n := 4800) (i := ((200 * (fI Y2 (10, 0, 0) 5)) + l1)) rfl rfl R (rc_10 R) H.1 (fun h Y4 hY R => ?_)
          replace H := H.2 Y4 hY
          clear hY
          refine y_next (pc' := 58) (xst_of (i := (.iconst 0)) (len := 1) rfl rfl (x_ico (v := 0) (by decide))) ?_
          refine z_is (i := (.istore 4)) (len := 2) (pc' := 60) (q := 4) rfl rfl rfl (by decide) (fun lv2 hlv => ?_)
          have e0 := xs1_A hlv e0 rfl rfl
          have e1 := xs1_A hlv e1 rfl rfl
          have e2 := xs1_A hlv e2 rfl rfl
          have e3 := xs1_B hlv e3 rfl rfl
          have e4 := xs1_N hlv
          clear hlv
          exact H _ _ R e0 e1 e2 e3 e4
theorem l_135_37 {V : xV} {g : xG} {Y : xW} {l1 : Int32} {l2 : Int32} {Q : Int32 → xW → Prop} (H : ((0 : Int32) = 0 ∨ (0 : Int32) = 1) ∧ Q 0 Y) : L_135_37 V g Y l1 l2 Q := by
  intro h lv R e0 e1 e2
  refine y_next (pc' := 38) (xst_of (i := (.iconst 0)) (len := 1) rfl rfl (x_ico (v := 0) (by decide))) ?_
  exact y_ret (xst_of (i := .ireturn) (len := 1) rfl rfl (x_zret rfl H.1)) ⟨_, _, rfl, R, H.2⟩
theorem l_135_60 {V : xV} {g : xG} {Y : xW} {l1 : Int32} {l2 : Int32} {l3 : Int32} {l4 : Int32} {Q : Int32 → xW → Prop} (H : ((8 ≤ l4) → ((1 : Int32) = 0 ∨ (1 : Int32) = 1) ∧ Q 1 Y) ∧ (¬ (8 ≤ l4) → vp_in ((8 * l3) + l4) 38400 ∧ ∀ Y1, Y1 = uA Y (10, 0, 0) 14 (Int32.toNatClampNeg ((8 * l3) + l4)) 0 → L_135_60 V g Y1 l1 l2 l3 (l4 + 1) Q)) : L_135_60 V g Y l1 l2 l3 l4 Q := by
  intro h lv R e0 e1 e2 e3 e4
  refine y_next (pc' := 62) (xst_of (i := (.iload 4)) (len := 2) rfl rfl (x_ilo e4)) ?_
  refine y_next (pc' := 64) (xst_of (i := (.bipush 8)) (len := 2) rfl rfl (x_bip (v := 8) (by decide))) ?_
  by_cases hc : 8 ≤ l4
  · replace H := H.1 hc
    refine y_next (xst_of (i := (.if_icmp .ge 22)) (len := 3) rfl rfl (xt_icmp_ge (t := 86) rfl hc)) ?_
    refine y_next (pc' := 87) (xst_of (i := (.iconst 1)) (len := 1) rfl rfl (x_ico (v := 1) (by decide))) ?_
    exact y_ret (xst_of (i := .ireturn) (len := 1) rfl rfl (x_zret rfl H.1)) ⟨_, _, rfl, R, H.2⟩
  · replace H := H.2 hc
    refine y_next (pc' := 67) (xst_of (i := (.if_icmp .ge 22)) (len := 3) rfl rfl (xf_icmp_ge (t := 86) rfl hc)) ?_
    refine y_next (pc' := 68) (xst_of (i := (.aload_n 0)) (len := 1) rfl rfl (x_aloadV (xisV_r _) e0)) ?_
    refine z_gA (t := (10, 0, 0)) (k := 14) rfl rfl rfl R (rc_10 R) ?_
    refine y_next (pc' := 73) (xst_of (i := (.bipush 8)) (len := 2) rfl rfl (x_bip (v := 8) (by decide))) ?_
    refine y_next (pc' := 74) (xst_of (i := (.iload_n 3)) (len := 1) rfl rfl (x_ilo e3)) ?_
    refine y_next (pc' := 75) (xst_of (i := .imul) (len := 1) rfl rfl rfl) ?_
    refine y_next (pc' := 77) (xst_of (i := (.iload 4)) (len := 2) rfl rfl (x_ilo e4)) ?_
    refine y_next (pc' := 78) (xst_of (i := .iadd) (len := 1) rfl rfl rfl) ?_
    refine y_next (pc' := 79) (xst_of (i := (.iconst 0)) (len := 1) rfl rfl (x_ico (v := 0) (by decide))) ?_
    refine z_sI (t := (10, 0, 0)) (k := 14) (n := 38400) (i := ((8 * l3) + l4)) rfl rfl R (rc_10 R) H.1 (fun h Y1 hY R => ?_)
    replace H := H.2 Y1 hY
    clear hY
    refine z_in (q := 4) (n := 1) (v := 1) rfl e4 (by decide) (by decide) (fun lv1 hlv => ?_)
    have e0 := xs1_A hlv e0 rfl rfl
    have e1 := xs1_A hlv e1 rfl rfl
    have e2 := xs1_A hlv e2 rfl rfl
    have e3 := xs1_B hlv e3 rfl rfl
    have e4 := xs1_N hlv
    clear hlv
    refine y_next (pc' := 60) (xst_of (i := (.goto (-23))) (len := 3) rfl rfl rfl) ?_
    exact H _ _ R e0 e1 e2 e3 e4
theorem l_136_0 {V : xV} {g : xG} {Y : xW} {l0 : Int32} {l1 : Int32} {l2 : Int32} {l3 : Int32} {Q : Int32 → xW → Prop} (H : ((l0 < 0) → L_136_32 V g Y l0 l1 l2 l3 Q) ∧ (¬ (l0 < 0) → ((8 ≤ l0) → L_136_32 V g Y l0 l1 l2 l3 Q) ∧ (¬ (8 ≤ l0) → ((l1 < 0) → L_136_32 V g Y l0 l1 l2 l3 Q) ∧ (¬ (l1 < 0) → ((3 ≤ l1) → L_136_32 V g Y l0 l1 l2 l3 Q) ∧ (¬ (3 ≤ l1) → ((l1 = 0) → L_136_28 V g Y l0 l1 l2 l3 Q) ∧ (¬ (l1 = 0) → ((l3 < l2) → L_136_32 V g Y l0 l1 l2 l3 Q) ∧ (¬ (l3 < l2) → L_136_28 V g Y l0 l1 l2 l3 Q))))))) : L_136_0 V g Y l0 l1 l2 l3 Q := by
  intro h lv R e0 e1 e2 e3
  refine y_next (pc' := 1) (xst_of (i := (.iload_n 0)) (len := 1) rfl rfl (x_ilo e0)) ?_
  by_cases hc : l0 < 0
  · replace H := H.1 hc
    refine y_next (xst_of (i := (.ifCond .lt 31)) (len := 3) rfl rfl (xt_if_lt (t := 32) rfl hc)) ?_
    exact H _ _ R e0 e1 e2 e3
  · replace H := H.2 hc
    refine y_next (pc' := 4) (xst_of (i := (.ifCond .lt 31)) (len := 3) rfl rfl (xf_if_lt (t := 32) rfl hc)) ?_
    refine y_next (pc' := 5) (xst_of (i := (.iload_n 0)) (len := 1) rfl rfl (x_ilo e0)) ?_
    refine y_next (pc' := 7) (xst_of (i := (.bipush 8)) (len := 2) rfl rfl (x_bip (v := 8) (by decide))) ?_
    by_cases hc : 8 ≤ l0
    · replace H := H.1 hc
      refine y_next (xst_of (i := (.if_icmp .ge 25)) (len := 3) rfl rfl (xt_icmp_ge (t := 32) rfl hc)) ?_
      exact H _ _ R e0 e1 e2 e3
    · replace H := H.2 hc
      refine y_next (pc' := 10) (xst_of (i := (.if_icmp .ge 25)) (len := 3) rfl rfl (xf_icmp_ge (t := 32) rfl hc)) ?_
      refine y_next (pc' := 11) (xst_of (i := (.iload_n 1)) (len := 1) rfl rfl (x_ilo e1)) ?_
      by_cases hc : l1 < 0
      · replace H := H.1 hc
        refine y_next (xst_of (i := (.ifCond .lt 21)) (len := 3) rfl rfl (xt_if_lt (t := 32) rfl hc)) ?_
        exact H _ _ R e0 e1 e2 e3
      · replace H := H.2 hc
        refine y_next (pc' := 14) (xst_of (i := (.ifCond .lt 21)) (len := 3) rfl rfl (xf_if_lt (t := 32) rfl hc)) ?_
        refine y_next (pc' := 15) (xst_of (i := (.iload_n 1)) (len := 1) rfl rfl (x_ilo e1)) ?_
        refine y_next (pc' := 16) (xst_of (i := (.iconst 3)) (len := 1) rfl rfl (x_ico (v := 3) (by decide))) ?_
        by_cases hc : 3 ≤ l1
        · replace H := H.1 hc
          refine y_next (xst_of (i := (.if_icmp .ge 16)) (len := 3) rfl rfl (xt_icmp_ge (t := 32) rfl hc)) ?_
          exact H _ _ R e0 e1 e2 e3
        · replace H := H.2 hc
          refine y_next (pc' := 19) (xst_of (i := (.if_icmp .ge 16)) (len := 3) rfl rfl (xf_icmp_ge (t := 32) rfl hc)) ?_
          refine y_next (pc' := 20) (xst_of (i := (.iload_n 1)) (len := 1) rfl rfl (x_ilo e1)) ?_
          by_cases hc : l1 = 0
          · replace H := H.1 hc
            refine y_next (xst_of (i := (.ifCond .eq 8)) (len := 3) rfl rfl (xt_if_eq (t := 28) rfl hc)) ?_
            exact H _ _ R e0 e1 e2 e3
          · replace H := H.2 hc
            refine y_next (pc' := 23) (xst_of (i := (.ifCond .eq 8)) (len := 3) rfl rfl (xf_if_eq (t := 28) rfl hc)) ?_
            refine y_next (pc' := 24) (xst_of (i := (.iload_n 2)) (len := 1) rfl rfl (x_ilo e2)) ?_
            refine y_next (pc' := 25) (xst_of (i := (.iload_n 3)) (len := 1) rfl rfl (x_ilo e3)) ?_
            by_cases hc : l3 < l2
            · replace H := H.1 hc
              refine y_next (xst_of (i := (.if_icmp .gt 7)) (len := 3) rfl rfl (xt_icmp_gt (t := 32) rfl hc)) ?_
              exact H _ _ R e0 e1 e2 e3
            · replace H := H.2 hc
              refine y_next (pc' := 28) (xst_of (i := (.if_icmp .gt 7)) (len := 3) rfl rfl (xf_icmp_gt (t := 32) rfl hc)) ?_
              exact H _ _ R e0 e1 e2 e3
theorem l_136_28 {V : xV} {g : xG} {Y : xW} {l0 : Int32} {l1 : Int32} {l2 : Int32} {l3 : Int32} {Q : Int32 → xW → Prop} (H : L_136_33 V g Y l0 l1 l2 l3 1 Q) : L_136_28 V g Y l0 l1 l2 l3 Q := by
  intro h lv R e0 e1 e2 e3
  refine y_next (pc' := 29) (xst_of (i := (.iconst 1)) (len := 1) rfl rfl (x_ico (v := 1) (by decide))) ?_
  refine y_next (pc' := 33) (xst_of (i := (.goto 4)) (len := 3) rfl rfl rfl) ?_
  exact H _ _ R e0 e1 e2 e3
theorem l_136_32 {V : xV} {g : xG} {Y : xW} {l0 : Int32} {l1 : Int32} {l2 : Int32} {l3 : Int32} {Q : Int32 → xW → Prop} (H : L_136_33 V g Y l0 l1 l2 l3 0 Q) : L_136_32 V g Y l0 l1 l2 l3 Q := by
  intro h lv R e0 e1 e2 e3
  refine y_next (pc' := 33) (xst_of (i := (.iconst 0)) (len := 1) rfl rfl (x_ico (v := 0) (by decide))) ?_
  exact H _ _ R e0 e1 e2 e3
theorem l_136_33 {V : xV} {g : xG} {Y : xW} {l0 : Int32} {l1 : Int32} {l2 : Int32} {l3 : Int32} {s0 : Int32} {Q : Int32 → xW → Prop} (H : (s0 = 0 ∨ s0 = 1) ∧ Q s0 Y) : L_136_33 V g Y l0 l1 l2 l3 s0 Q := by
  intro h lv R e0 e1 e2 e3
  exact y_ret (xst_of (i := .ireturn) (len := 1) rfl rfl (x_zret rfl H.1)) ⟨_, _, rfl, R, H.2⟩
theorem l_137_0 {V : xV} {g : xG} {Y : xW} {l1 : Int32} {l2 : Int32} {l3 : Int32} {l4 : Int32} {l5 : Int32} {Q : Int32 → xW → Prop} (H : ∀ Y1, Y1 = uI Y (10, 0, 0) 2 0 → (((fI Y1 (10, 0, 0) 5) < 0) → L_137_59 V g Y1 l1 l2 l3 l4 l5 Q) ∧ (¬ ((fI Y1 (10, 0, 0) 5) < 0) → ((l1 < 0) → L_137_59 V g Y1 l1 l2 l3 l4 l5 Q) ∧ (¬ (l1 < 0) → vp_in (fI Y1 (10, 0, 0) 5) 24 ∧ (((fA Y1 (10, 0, 0) 8 (Int32.toNatClampNeg (fI Y1 (10, 0, 0) 5))) ≤ l1) → L_137_59 V g Y1 l1 l2 l3 l4 l5 Q) ∧ (¬ ((fA Y1 (10, 0, 0) 8 (Int32.toNatClampNeg (fI Y1 (10, 0, 0) 5))) ≤ l1) → vp_in ((200 * (fI Y1 (10, 0, 0) 5)) + l1) 4800 ∧ (((fA Y1 (10, 0, 0) 13 (Int32.toNatClampNeg ((200 * (fI Y1 (10, 0, 0) 5)) + l1))) < 0) → L_137_59 V g Y1 l1 l2 l3 l4 l5 Q) ∧ (¬ ((fA Y1 (10, 0, 0) 13 (Int32.toNatClampNeg ((200 * (fI Y1 (10, 0, 0) 5)) + l1))) < 0) → L_136_0 V g Y1 l2 l3 l4 l5 (fun x3 Y2 => ((x3 = 0) → L_137_59 V g Y2 l1 l2 l3 l4 l5 Q) ∧ (¬ (x3 = 0) → vp_in ((8 * ((200 * (fI Y2 (10, 0, 0) 5)) + l1)) + l2) 38400 ∧ ∀ Y4, Y4 = uA Y2 (10, 0, 0) 14 (Int32.toNatClampNeg ((8 * ((200 * (fI Y2 (10, 0, 0) 5)) + l1)) + l2)) l3 → vp_in ((8 * ((200 * (fI Y2 (10, 0, 0) 5)) + l1)) + l2) 38400 ∧ ∀ Y5, Y5 = uA Y4 (10, 0, 0) 15 (Int32.toNatClampNeg ((8 * ((200 * (fI Y2 (10, 0, 0) 5)) + l1)) + l2)) l4 → vp_in ((8 * ((200 * (fI Y2 (10, 0, 0) 5)) + l1)) + l2) 38400 ∧ ∀ Y6, Y6 = uA Y5 (10, 0, 0) 16 (Int32.toNatClampNeg ((8 * ((200 * (fI Y2 (10, 0, 0) 5)) + l1)) + l2)) l5 → ((1 : Int32) = 0 ∨ (1 : Int32) = 1) ∧ Q 1 Y6))))))) : L_137_0 V g Y l1 l2 l3 l4 l5 Q := by
  intro h lv R e0 e1 e2 e3 e4 e5
  refine y_next (pc' := 1) (xst_of (i := (.aload_n 0)) (len := 1) rfl rfl (x_aloadV (xisV_r _) e0)) ?_
  refine y_next (pc' := 2) (xst_of (i := (.iconst 0)) (len := 1) rfl rfl (x_ico (v := 0) (by decide))) ?_
  refine z_pI (t := (10, 0, 0)) (k := 2) rfl rfl rfl rfl rfl R (rc_10 R) (fun h Y1 hY R => ?_)
  replace H := H Y1 hY
  clear hY
  refine y_next (pc' := 6) (xst_of (i := (.aload_n 0)) (len := 1) rfl rfl (x_aloadV (xisV_r _) e0)) ?_
  refine z_gI (t := (10, 0, 0)) (k := 5) rfl rfl rfl R (rc_10 R) ?_
  by_cases hc : (fI Y1 (10, 0, 0) 5) < 0
  · replace H := H.1 hc
    refine y_next (xst_of (i := (.ifCond .lt 50)) (len := 3) rfl rfl (xt_if_lt (t := 59) rfl hc)) ?_
    exact H _ _ R e0 e1 e2 e3 e4 e5
  · replace H := H.2 hc
    refine y_next (pc' := 12) (xst_of (i := (.ifCond .lt 50)) (len := 3) rfl rfl (xf_if_lt (t := 59) rfl hc)) ?_
    refine y_next (pc' := 13) (xst_of (i := (.iload_n 1)) (len := 1) rfl rfl (x_ilo e1)) ?_
    by_cases hc : l1 < 0
    · replace H := H.1 hc
      refine y_next (xst_of (i := (.ifCond .lt 46)) (len := 3) rfl rfl (xt_if_lt (t := 59) rfl hc)) ?_
      exact H _ _ R e0 e1 e2 e3 e4 e5
    · replace H := H.2 hc
      refine y_next (pc' := 16) (xst_of (i := (.ifCond .lt 46)) (len := 3) rfl rfl (xf_if_lt (t := 59) rfl hc)) ?_
      refine y_next (pc' := 17) (xst_of (i := (.iload_n 1)) (len := 1) rfl rfl (x_ilo e1)) ?_
      refine y_next (pc' := 18) (xst_of (i := (.aload_n 0)) (len := 1) rfl rfl (x_aloadV (xisV_r _) e0)) ?_
      refine z_gA (t := (10, 0, 0)) (k := 8) rfl rfl rfl R (rc_10 R) ?_
      refine y_next (pc' := 22) (xst_of (i := (.aload_n 0)) (len := 1) rfl rfl (x_aloadV (xisV_r _) e0)) ?_
      refine z_gI (t := (10, 0, 0)) (k := 5) rfl rfl rfl R (rc_10 R) ?_
      refine z_aI (t := (10, 0, 0)) (k := 8) (n := 24) (i := (fI Y1 (10, 0, 0) 5)) rfl rfl R (rc_10 R) H.1 ?_
      replace H := H.2
      by_cases hc : (fA Y1 (10, 0, 0) 8 (Int32.toNatClampNeg (fI Y1 (10, 0, 0) 5))) ≤ l1
      · replace H := H.1 hc
        refine y_next (xst_of (i := (.if_icmp .ge 33)) (len := 3) rfl rfl (xt_icmp_ge (t := 59) rfl hc)) ?_
        exact H _ _ R e0 e1 e2 e3 e4 e5
      · replace H := H.2 hc
        refine y_next (pc' := 29) (xst_of (i := (.if_icmp .ge 33)) (len := 3) rfl rfl (xf_icmp_ge (t := 59) rfl hc)) ?_
        refine y_next (pc' := 30) (xst_of (i := (.aload_n 0)) (len := 1) rfl rfl (x_aloadV (xisV_r _) e0)) ?_
        refine z_gA (t := (10, 0, 0)) (k := 13) rfl rfl rfl R (rc_10 R) ?_
        refine y_next (pc' := 36) (xst_of (i := (.sipush 200)) (len := 3) rfl rfl (x_sip (v := 200) (by decide))) ?_
        refine y_next (pc' := 37) (xst_of (i := (.aload_n 0)) (len := 1) rfl rfl (x_aloadV (xisV_r _) e0)) ?_
        refine z_gI (t := (10, 0, 0)) (k := 5) rfl rfl rfl R (rc_10 R) ?_
        refine y_next (pc' := 41) (xst_of (i := .imul) (len := 1) rfl rfl rfl) ?_
        refine y_next (pc' := 42) (xst_of (i := (.iload_n 1)) (len := 1) rfl rfl (x_ilo e1)) ?_
        refine y_next (pc' := 43) (xst_of (i := .iadd) (len := 1) rfl rfl rfl) ?_
        refine z_aI (t := (10, 0, 0)) (k := 13) (n := 4800) (i := ((200 * (fI Y1 (10, 0, 0) 5)) + l1)) rfl rfl R (rc_10 R) H.1 ?_
        replace H := H.2
        by_cases hc : (fA Y1 (10, 0, 0) 13 (Int32.toNatClampNeg ((200 * (fI Y1 (10, 0, 0) 5)) + l1))) < 0
        · replace H := H.1 hc
          refine y_next (xst_of (i := (.ifCond .lt 15)) (len := 3) rfl rfl (xt_if_lt (t := 59) rfl hc)) ?_
          exact H _ _ R e0 e1 e2 e3 e4 e5
        · replace H := H.2 hc
          refine y_next (pc' := 47) (xst_of (i := (.ifCond .lt 15)) (len := 3) rfl rfl (xf_if_lt (t := 59) rfl hc)) ?_
          refine y_next (pc' := 48) (xst_of (i := (.iload_n 2)) (len := 1) rfl rfl (x_ilo e2)) ?_
          refine y_next (pc' := 49) (xst_of (i := (.iload_n 3)) (len := 1) rfl rfl (x_ilo e3)) ?_
          refine y_next (pc' := 51) (xst_of (i := (.iload 4)) (len := 2) rfl rfl (x_ilo e4)) ?_
          refine y_next (pc' := 53) (xst_of (i := (.iload 5)) (len := 2) rfl rfl (x_ilo e5)) ?_
          refine z_cI (k := 136) (i := (.invokestatic 170)) (as := [.int l2, .int l3, .int l4, .int l5]) (rest := []) rfl rfl rfl (H _ _ R rfl rfl rfl rfl) (fun x3 h Y2 R H => ?_)
          by_cases hc : x3 = 0
          · replace H := H.1 hc
            refine y_next (pc' := 59) (xst_of (i := (.ifCond .ne 5)) (len := 3) rfl rfl (xf_if_ne (t := 61) rfl (fun z => z hc))) ?_
            exact H _ _ R e0 e1 e2 e3 e4 e5
          · replace H := H.2 hc
            refine y_next (xst_of (i := (.ifCond .ne 5)) (len := 3) rfl rfl (xt_if_ne (t := 61) rfl hc)) ?_
            refine y_next (pc' := 63) (xst_of (i := (.bipush 8)) (len := 2) rfl rfl (x_bip (v := 8) (by decide))) ?_
            refine y_next (pc' := 66) (xst_of (i := (.sipush 200)) (len := 3) rfl rfl (x_sip (v := 200) (by decide))) ?_
            refine y_next (pc' := 67) (xst_of (i := (.aload_n 0)) (len := 1) rfl rfl (x_aloadV (xisV_r _) e0)) ?_
            refine z_gI (t := (10, 0, 0)) (k := 5) rfl rfl rfl R (rc_10 R) ?_
            refine y_next (pc' := 71) (xst_of (i := .imul) (len := 1) rfl rfl rfl) ?_
            refine y_next (pc' := 72) (xst_of (i := (.iload_n 1)) (len := 1) rfl rfl (x_ilo e1)) ?_
            refine y_next (pc' := 73) (xst_of (i := .iadd) (len := 1) rfl rfl rfl) ?_
            refine y_next (pc' := 74) (xst_of (i := .imul) (len := 1) rfl rfl rfl) ?_
            refine y_next (pc' := 75) (xst_of (i := (.iload_n 2)) (len := 1) rfl rfl (x_ilo e2)) ?_
            refine y_next (pc' := 76) (xst_of (i := .iadd) (len := 1) rfl rfl rfl) ?_
            refine z_is (i := (.istore 6)) (len := 2) (pc' := 78) (q := 6) rfl rfl rfl (by decide) (fun lv1 hlv => ?_)
            have e0 := xs1_A hlv e0 rfl rfl
            have e1 := xs1_A hlv e1 rfl rfl
            have e2 := xs1_A hlv e2 rfl rfl
            have e3 := xs1_A hlv e3 rfl rfl
            have e4 := xs1_A hlv e4 rfl rfl
            have e5 := xs1_B hlv e5 rfl rfl
            have e6 := xs1_N hlv
            clear hlv
            refine y_next (pc' := 79) (xst_of (i := (.aload_n 0)) (len := 1) rfl rfl (x_aloadV (xisV_r _) e0)) ?_
            refine z_gA (t := (10, 0, 0)) (k := 14) rfl rfl rfl R (rc_10 R) ?_
            refine y_next (pc' := 84) (xst_of (i := (.iload 6)) (len := 2) rfl rfl (x_ilo e6)) ?_
            refine y_next (pc' := 85) (xst_of (i := (.iload_n 3)) (len := 1) rfl rfl (x_ilo e3)) ?_
            refine z_sI (t := (10, 0, 0)) (k := 14) (n := 38400) (i := ((8 * ((200 * (fI Y2 (10, 0, 0) 5)) + l1)) + l2)) rfl rfl R (rc_10 R) H.1 (fun h Y4 hY R => ?_)
            replace H := H.2 Y4 hY
            clear hY
            refine y_next (pc' := 87) (xst_of (i := (.aload_n 0)) (len := 1) rfl rfl (x_aloadV (xisV_r _) e0)) ?_
            refine z_gA (t := (10, 0, 0)) (k := 15) rfl rfl rfl R (rc_10 R) ?_
            refine y_next (pc' := 92) (xst_of (i := (.iload 6)) (len := 2) rfl rfl (x_ilo e6)) ?_
            refine y_next (pc' := 94) (xst_of (i := (.iload 4)) (len := 2) rfl rfl (x_ilo e4)) ?_
            refine z_sI (t := (10, 0, 0)) (k := 15) (n := 38400) (i := ((8 * ((200 * (fI Y2 (10, 0, 0) 5)) + l1)) + l2)) rfl rfl R (rc_10 R) H.1 (fun h Y5 hY R => ?_)
            replace H := H.2 Y5 hY
            clear hY
            refine y_next (pc' := 96) (xst_of (i := (.aload_n 0)) (len := 1) rfl rfl (x_aloadV (xisV_r _) e0)) ?_
            refine z_gA (t := (10, 0, 0)) (k := 16) rfl rfl rfl R (rc_10 R) ?_
            refine y_next (pc' := 101) (xst_of (i := (.iload 6)) (len := 2) rfl rfl (x_ilo e6)) ?_
            refine y_next (pc' := 103) (xst_of (i := (.iload 5)) (len := 2) rfl rfl (x_ilo e5)) ?_
            refine z_sI (t := (10, 0, 0)) (k := 16) (n := 38400) (i := ((8 * ((200 * (fI Y2 (10, 0, 0) 5)) + l1)) + l2)) rfl rfl R (rc_10 R) H.1 (fun h Y6 hY R => ?_)
            replace H := H.2 Y6 hY
            clear hY
            refine y_next (pc' := 105) (xst_of (i := (.iconst 1)) (len := 1) rfl rfl (x_ico (v := 1) (by decide))) ?_
            exact y_ret (xst_of (i := .ireturn) (len := 1) rfl rfl (x_zret rfl H.1)) ⟨_, _, rfl, R, H.2⟩
theorem l_137_59 {V : xV} {g : xG} {Y : xW} {l1 : Int32} {l2 : Int32} {l3 : Int32} {l4 : Int32} {l5 : Int32} {Q : Int32 → xW → Prop} (H : ((0 : Int32) = 0 ∨ (0 : Int32) = 1) ∧ Q 0 Y) : L_137_59 V g Y l1 l2 l3 l4 l5 Q := by
  intro h lv R e0 e1 e2 e3 e4 e5
  refine y_next (pc' := 60) (xst_of (i := (.iconst 0)) (len := 1) rfl rfl (x_ico (v := 0) (by decide))) ?_
  exact y_ret (xst_of (i := .ireturn) (len := 1) rfl rfl (x_zret rfl H.1)) ⟨_, _, rfl, R, H.2⟩
theorem l_138_0 {V : xV} {g : xG} {Y : xW} {l1 : Int32} {Q : Int32 → xW → Prop} (H : ∀ Y1, Y1 = uI Y (10, 0, 0) 2 0 → (((fI Y1 (10, 0, 0) 5) < 0) → L_138_43 V g Y1 l1 Q) ∧ (¬ ((fI Y1 (10, 0, 0) 5) < 0) → vp_in (fI Y1 (10, 0, 0) 5) 24 ∧ (((fA Y1 (10, 0, 0) 9 (Int32.toNatClampNeg (fI Y1 (10, 0, 0) 5))) = 8) → L_138_43 V g Y1 l1 Q) ∧ (¬ ((fA Y1 (10, 0, 0) 9 (Int32.toNatClampNeg (fI Y1 (10, 0, 0) 5))) = 8) → ((l1 < 0) → L_138_43 V g Y1 l1 Q) ∧ (¬ (l1 < 0) → vp_in (fI Y1 (10, 0, 0) 5) 24 ∧ ((l1 < (fA Y1 (10, 0, 0) 8 (Int32.toNatClampNeg (fI Y1 (10, 0, 0) 5)))) → vp_in (fI Y1 (10, 0, 0) 5) 24 ∧ vp_in ((8 * (fI Y1 (10, 0, 0) 5)) + (fA Y1 (10, 0, 0) 9 (Int32.toNatClampNeg (fI Y1 (10, 0, 0) 5)))) 192 ∧ ∀ Y2, Y2 = uA Y1 (10, 0, 0) 17 (Int32.toNatClampNeg ((8 * (fI Y1 (10, 0, 0) 5)) + (fA Y1 (10, 0, 0) 9 (Int32.toNatClampNeg (fI Y1 (10, 0, 0) 5))))) l1 → vp_in (fI Y2 (10, 0, 0) 5) 24 ∧ vp_in (fI Y2 (10, 0, 0) 5) 24 ∧ ∀ Y3, Y3 = uA Y2 (10, 0, 0) 9 (Int32.toNatClampNeg (fI Y2 (10, 0, 0) 5)) ((fA Y2 (10, 0, 0) 9 (Int32.toNatClampNeg (fI Y2 (10, 0, 0) 5))) + 1) → vp_in (fI Y3 (10, 0, 0) 5) 24 ∧ Q ((fA Y3 (10, 0, 0) 9 (Int32.toNatClampNeg (fI Y3 (10, 0, 0) 5))) - 1) Y3) ∧ (¬ (l1 < (fA Y1 (10, 0, 0) 8 (Int32.toNatClampNeg (fI Y1 (10, 0, 0) 5)))) → L_138_43 V g Y1 l1 Q))))) : L_138_0 V g Y l1 Q := by
  intro h lv R e0 e1
  refine y_next (pc' := 1) (xst_of (i := (.aload_n 0)) (len := 1) rfl rfl (x_aloadV (xisV_r _) e0)) ?_
  refine y_next (pc' := 2) (xst_of (i := (.iconst 0)) (len := 1) rfl rfl (x_ico (v := 0) (by decide))) ?_
  refine z_pI (t := (10, 0, 0)) (k := 2) rfl rfl rfl rfl rfl R (rc_10 R) (fun h Y1 hY R => ?_)
  replace H := H Y1 hY
  clear hY
  refine y_next (pc' := 6) (xst_of (i := (.aload_n 0)) (len := 1) rfl rfl (x_aloadV (xisV_r _) e0)) ?_
  refine z_gI (t := (10, 0, 0)) (k := 5) rfl rfl rfl R (rc_10 R) ?_
  by_cases hc : (fI Y1 (10, 0, 0) 5) < 0
  · replace H := H.1 hc
    refine y_next (xst_of (i := (.ifCond .lt 34)) (len := 3) rfl rfl (xt_if_lt (t := 43) rfl hc)) ?_
    exact H _ _ R e0 e1
  · replace H := H.2 hc
    refine y_next (pc' := 12) (xst_of (i := (.ifCond .lt 34)) (len := 3) rfl rfl (xf_if_lt (t := 43) rfl hc)) ?_
    refine y_next (pc' := 13) (xst_of (i := (.aload_n 0)) (len := 1) rfl rfl (x_aloadV (xisV_r _) e0)) ?_
    refine z_gA (t := (10, 0, 0)) (k := 9) rfl rfl rfl R (rc_10 R) ?_
    refine y_next (pc' := 17) (xst_of (i := (.aload_n 0)) (len := 1) rfl rfl (x_aloadV (xisV_r _) e0)) ?_
    refine z_gI (t := (10, 0, 0)) (k := 5) rfl rfl rfl R (rc_10 R) ?_
    refine z_aI (t := (10, 0, 0)) (k := 9) (n := 24) (i := (fI Y1 (10, 0, 0) 5)) rfl rfl R (rc_10 R) H.1 ?_
    replace H := H.2
    refine y_next (pc' := 23) (xst_of (i := (.bipush 8)) (len := 2) rfl rfl (x_bip (v := 8) (by decide))) ?_
    by_cases hc : (fA Y1 (10, 0, 0) 9 (Int32.toNatClampNeg (fI Y1 (10, 0, 0) 5))) = 8
    · replace H := H.1 hc
      refine y_next (xst_of (i := (.if_icmp .eq 20)) (len := 3) rfl rfl (xt_icmp_eq (t := 43) rfl hc)) ?_
      exact H _ _ R e0 e1
    · replace H := H.2 hc
      refine y_next (pc' := 26) (xst_of (i := (.if_icmp .eq 20)) (len := 3) rfl rfl (xf_icmp_eq (t := 43) rfl hc)) ?_
      refine y_next (pc' := 27) (xst_of (i := (.iload_n 1)) (len := 1) rfl rfl (x_ilo e1)) ?_
      by_cases hc : l1 < 0
      · replace H := H.1 hc
        refine y_next (xst_of (i := (.ifCond .lt 16)) (len := 3) rfl rfl (xt_if_lt (t := 43) rfl hc)) ?_
        exact H _ _ R e0 e1
      · replace H := H.2 hc
        refine y_next (pc' := 30) (xst_of (i := (.ifCond .lt 16)) (len := 3) rfl rfl (xf_if_lt (t := 43) rfl hc)) ?_
        refine y_next (pc' := 31) (xst_of (i := (.iload_n 1)) (len := 1) rfl rfl (x_ilo e1)) ?_
        refine y_next (pc' := 32) (xst_of (i := (.aload_n 0)) (len := 1) rfl rfl (x_aloadV (xisV_r _) e0)) ?_
        refine z_gA (t := (10, 0, 0)) (k := 8) rfl rfl rfl R (rc_10 R) ?_
        refine y_next (pc' := 36) (xst_of (i := (.aload_n 0)) (len := 1) rfl rfl (x_aloadV (xisV_r _) e0)) ?_
        refine z_gI (t := (10, 0, 0)) (k := 5) rfl rfl rfl R (rc_10 R) ?_
        refine z_aI (t := (10, 0, 0)) (k := 8) (n := 24) (i := (fI Y1 (10, 0, 0) 5)) rfl rfl R (rc_10 R) H.1 ?_
        replace H := H.2
        by_cases hc : l1 < (fA Y1 (10, 0, 0) 8 (Int32.toNatClampNeg (fI Y1 (10, 0, 0) 5)))
        · replace H := H.1 hc
          refine y_next (xst_of (i := (.if_icmp .lt 5)) (len := 3) rfl rfl (xt_icmp_lt (t := 45) rfl hc)) ?_
          refine y_next (pc' := 46) (xst_of (i := (.aload_n 0)) (len := 1) rfl rfl (x_aloadV (xisV_r _) e0)) ?_
          refine z_gA (t := (10, 0, 0)) (k := 17) rfl rfl rfl R (rc_10 R) ?_
          refine y_next (pc' := 51) (xst_of (i := (.bipush 8)) (len := 2) rfl rfl (x_bip (v := 8) (by decide))) ?_
          refine y_next (pc' := 52) (xst_of (i := (.aload_n 0)) (len := 1) rfl rfl (x_aloadV (xisV_r _) e0)) ?_
          refine z_gI (t := (10, 0, 0)) (k := 5) rfl rfl rfl R (rc_10 R) ?_
          refine y_next (pc' := 56) (xst_of (i := .imul) (len := 1) rfl rfl rfl) ?_
          refine y_next (pc' := 57) (xst_of (i := (.aload_n 0)) (len := 1) rfl rfl (x_aloadV (xisV_r _) e0)) ?_
          refine z_gA (t := (10, 0, 0)) (k := 9) rfl rfl rfl R (rc_10 R) ?_
          refine y_next (pc' := 61) (xst_of (i := (.aload_n 0)) (len := 1) rfl rfl (x_aloadV (xisV_r _) e0)) ?_
          refine z_gI (t := (10, 0, 0)) (k := 5) rfl rfl rfl R (rc_10 R) ?_
          refine z_aI (t := (10, 0, 0)) (k := 9) (n := 24) (i := (fI Y1 (10, 0, 0) 5)) rfl rfl R (rc_10 R) H.1 ?_
          replace H := H.2
          refine y_next (pc' := 66) (xst_of (i := .iadd) (len := 1) rfl rfl rfl) ?_
          refine y_next (pc' := 67) (xst_of (i := (.iload_n 1)) (len := 1) rfl rfl (x_ilo e1)) ?_
          refine z_sI (t := (10, 0, 0)) (k := 17) (n := 192) (i := ((8 * (fI Y1 (10, 0, 0) 5)) + (fA Y1 (10, 0, 0) 9 (Int32.toNatClampNeg (fI Y1 (10, 0, 0) 5))))) rfl rfl R (rc_10 R) H.1 (fun h Y2 hY R => ?_)
          replace H := H.2 Y2 hY
          clear hY
          refine y_next (pc' := 69) (xst_of (i := (.aload_n 0)) (len := 1) rfl rfl (x_aloadV (xisV_r _) e0)) ?_
          refine z_gA (t := (10, 0, 0)) (k := 9) rfl rfl rfl R (rc_10 R) ?_
          refine y_next (pc' := 73) (xst_of (i := (.aload_n 0)) (len := 1) rfl rfl (x_aloadV (xisV_r _) e0)) ?_
          refine z_gI (t := (10, 0, 0)) (k := 5) rfl rfl rfl R (rc_10 R) ?_
          refine y_next (pc' := 77) (xst_of (i := .dup2) (len := 1) rfl rfl (x_dup2 rfl rfl)) ?_
          refine z_aI (t := (10, 0, 0)) (k := 9) (n := 24) (i := (fI Y2 (10, 0, 0) 5)) rfl rfl R (rc_10 R) H.1 ?_
          replace H := H.2
          refine y_next (pc' := 79) (xst_of (i := (.iconst 1)) (len := 1) rfl rfl (x_ico (v := 1) (by decide))) ?_
          refine y_next (pc' := 80) (xst_of (i := .iadd) (len := 1) rfl rfl rfl) ?_
          refine z_sI (t := (10, 0, 0)) (k := 9) (n := 24) (i := (fI Y2 (10, 0, 0) 5)) rfl rfl R (rc_10 R) H.1 (fun h Y3 hY R => ?_)
          replace H := H.2 Y3 hY
          clear hY
          refine y_next (pc' := 82) (xst_of (i := (.aload_n 0)) (len := 1) rfl rfl (x_aloadV (xisV_r _) e0)) ?_
          refine z_gA (t := (10, 0, 0)) (k := 9) rfl rfl rfl R (rc_10 R) ?_
          refine y_next (pc' := 86) (xst_of (i := (.aload_n 0)) (len := 1) rfl rfl (x_aloadV (xisV_r _) e0)) ?_
          refine z_gI (t := (10, 0, 0)) (k := 5) rfl rfl rfl R (rc_10 R) ?_
          refine z_aI (t := (10, 0, 0)) (k := 9) (n := 24) (i := (fI Y3 (10, 0, 0) 5)) rfl rfl R (rc_10 R) H.1 ?_
          replace H := H.2
          refine y_next (pc' := 91) (xst_of (i := (.iconst 1)) (len := 1) rfl rfl (x_ico (v := 1) (by decide))) ?_
          refine y_next (pc' := 92) (xst_of (i := .isub) (len := 1) rfl rfl rfl) ?_
          exact y_ret (xst_of (i := .ireturn) (len := 1) rfl rfl rfl) ⟨_, _, rfl, R, H⟩
        · replace H := H.2 hc
          refine y_next (pc' := 43) (xst_of (i := (.if_icmp .lt 5)) (len := 3) rfl rfl (xf_icmp_lt (t := 45) rfl hc)) ?_
          exact H _ _ R e0 e1
theorem l_138_43 {V : xV} {g : xG} {Y : xW} {l1 : Int32} {Q : Int32 → xW → Prop} (H : Q (-1) Y) : L_138_43 V g Y l1 Q := by
  intro h lv R e0 e1
  refine y_next (pc' := 44) (xst_of (i := (.iconst (-1))) (len := 1) rfl rfl (x_ico (v := (-1)) (by decide))) ?_
  exact y_ret (xst_of (i := .ireturn) (len := 1) rfl rfl rfl) ⟨_, _, rfl, R, H⟩
theorem l_139_0 {V : xV} {g : xG} {Y : xW} {l1 : Int32} {l2 : Int32} {l3 : Int32} {l4 : Int32} {l5 : Int32} {Q : Int32 → xW → Prop} (H : ∀ Y1, Y1 = uI Y (10, 0, 0) 2 0 → (((fI Y1 (10, 0, 0) 5) < 0) → L_139_32 V g Y1 l1 l2 l3 l4 l5 Q) ∧ (¬ ((fI Y1 (10, 0, 0) 5) < 0) → L_134_0 V g Y1 l1 (fun x3 Y2 => ((x3 = 0) → L_139_32 V g Y2 l1 l2 l3 l4 l5 Q) ∧ (¬ (x3 = 0) → L_136_0 V g Y2 l2 l3 l4 l5 (fun x5 Y4 => ((x5 = 0) → L_139_32 V g Y4 l1 l2 l3 l4 l5 Q) ∧ (¬ (x5 = 0) → vp_in ((8 * ((8 * (fI Y4 (10, 0, 0) 5)) + l1)) + l2) 1536 ∧ ∀ Y6, Y6 = uA Y4 (10, 0, 0) 19 (Int32.toNatClampNeg ((8 * ((8 * (fI Y4 (10, 0, 0) 5)) + l1)) + l2)) l3 → vp_in ((8 * ((8 * (fI Y4 (10, 0, 0) 5)) + l1)) + l2) 1536 ∧ ∀ Y7, Y7 = uA Y6 (10, 0, 0) 20 (Int32.toNatClampNeg ((8 * ((8 * (fI Y4 (10, 0, 0) 5)) + l1)) + l2)) l4 → vp_in ((8 * ((8 * (fI Y4 (10, 0, 0) 5)) + l1)) + l2) 1536 ∧ ∀ Y8, Y8 = uA Y7 (10, 0, 0) 21 (Int32.toNatClampNeg ((8 * ((8 * (fI Y4 (10, 0, 0) 5)) + l1)) + l2)) l5 → ((1 : Int32) = 0 ∨ (1 : Int32) = 1) ∧ Q 1 Y8)))))) : L_139_0 V g Y l1 l2 l3 l4 l5 Q := by
  intro h lv R e0 e1 e2 e3 e4 e5
  refine y_next (pc' := 1) (xst_of (i := (.aload_n 0)) (len := 1) rfl rfl (x_aloadV (xisV_r _) e0)) ?_
  refine y_next (pc' := 2) (xst_of (i := (.iconst 0)) (len := 1) rfl rfl (x_ico (v := 0) (by decide))) ?_
  refine z_pI (t := (10, 0, 0)) (k := 2) rfl rfl rfl rfl rfl R (rc_10 R) (fun h Y1 hY R => ?_)
  replace H := H Y1 hY
  clear hY
  refine y_next (pc' := 6) (xst_of (i := (.aload_n 0)) (len := 1) rfl rfl (x_aloadV (xisV_r _) e0)) ?_
  refine z_gI (t := (10, 0, 0)) (k := 5) rfl rfl rfl R (rc_10 R) ?_
  by_cases hc : (fI Y1 (10, 0, 0) 5) < 0
  · replace H := H.1 hc
    refine y_next (xst_of (i := (.ifCond .lt 23)) (len := 3) rfl rfl (xt_if_lt (t := 32) rfl hc)) ?_
    exact H _ _ R e0 e1 e2 e3 e4 e5
  · replace H := H.2 hc
    refine y_next (pc' := 12) (xst_of (i := (.ifCond .lt 23)) (len := 3) rfl rfl (xf_if_lt (t := 32) rfl hc)) ?_
    refine y_next (pc' := 13) (xst_of (i := (.aload_n 0)) (len := 1) rfl rfl (x_aloadV (xisV_r _) e0)) ?_
    refine y_next (pc' := 14) (xst_of (i := (.iload_n 1)) (len := 1) rfl rfl (x_ilo e1)) ?_
    refine z_cI (k := 134) (i := (.invokevirtual 167)) (as := [.ref (g.2 (10, 0, 0) 0), .int l1]) (rest := []) rfl rfl (x_callv rfl rfl (rc_ob R (rc_10 R) rfl) rfl rfl) (H _ _ R rfl rfl) (fun x3 h Y2 R H => ?_)
    by_cases hc : x3 = 0
    · replace H := H.1 hc
      refine y_next (xst_of (i := (.ifCond .eq 15)) (len := 3) rfl rfl (xt_if_eq (t := 32) rfl hc)) ?_
      exact H _ _ R e0 e1 e2 e3 e4 e5
    · replace H := H.2 hc
      refine y_next (pc' := 20) (xst_of (i := (.ifCond .eq 15)) (len := 3) rfl rfl (xf_if_eq (t := 32) rfl hc)) ?_
      refine y_next (pc' := 21) (xst_of (i := (.iload_n 2)) (len := 1) rfl rfl (x_ilo e2)) ?_
      refine y_next (pc' := 22) (xst_of (i := (.iload_n 3)) (len := 1) rfl rfl (x_ilo e3)) ?_
      refine y_next (pc' := 24) (xst_of (i := (.iload 4)) (len := 2) rfl rfl (x_ilo e4)) ?_
      refine y_next (pc' := 26) (xst_of (i := (.iload 5)) (len := 2) rfl rfl (x_ilo e5)) ?_
      refine z_cI (k := 136) (i := (.invokestatic 170)) (as := [.int l2, .int l3, .int l4, .int l5]) (rest := []) rfl rfl rfl (H _ _ R rfl rfl rfl rfl) (fun x5 h Y4 R H => ?_)
      by_cases hc : x5 = 0
      · replace H := H.1 hc
        refine y_next (pc' := 32) (xst_of (i := (.ifCond .ne 5)) (len := 3) rfl rfl (xf_if_ne (t := 34) rfl (fun z => z hc))) ?_
        exact H _ _ R e0 e1 e2 e3 e4 e5
      · replace H := H.2 hc
        refine y_next (xst_of (i := (.ifCond .ne 5)) (len := 3) rfl rfl (xt_if_ne (t := 34) rfl hc)) ?_
        refine y_next (pc' := 36) (xst_of (i := (.bipush 8)) (len := 2) rfl rfl (x_bip (v := 8) (by decide))) ?_
        refine y_next (pc' := 38) (xst_of (i := (.bipush 8)) (len := 2) rfl rfl (x_bip (v := 8) (by decide))) ?_
        refine y_next (pc' := 39) (xst_of (i := (.aload_n 0)) (len := 1) rfl rfl (x_aloadV (xisV_r _) e0)) ?_
        refine z_gI (t := (10, 0, 0)) (k := 5) rfl rfl rfl R (rc_10 R) ?_
        refine y_next (pc' := 43) (xst_of (i := .imul) (len := 1) rfl rfl rfl) ?_
        refine y_next (pc' := 44) (xst_of (i := (.iload_n 1)) (len := 1) rfl rfl (x_ilo e1)) ?_
        refine y_next (pc' := 45) (xst_of (i := .iadd) (len := 1) rfl rfl rfl) ?_
        refine y_next (pc' := 46) (xst_of (i := .imul) (len := 1) rfl rfl rfl) ?_
        refine y_next (pc' := 47) (xst_of (i := (.iload_n 2)) (len := 1) rfl rfl (x_ilo e2)) ?_
        refine y_next (pc' := 48) (xst_of (i := .iadd) (len := 1) rfl rfl rfl) ?_
        refine z_is (i := (.istore 6)) (len := 2) (pc' := 50) (q := 6) rfl rfl rfl (by decide) (fun lv1 hlv => ?_)
        have e0 := xs1_A hlv e0 rfl rfl
        have e1 := xs1_A hlv e1 rfl rfl
        have e2 := xs1_A hlv e2 rfl rfl
        have e3 := xs1_A hlv e3 rfl rfl
        have e4 := xs1_A hlv e4 rfl rfl
        have e5 := xs1_B hlv e5 rfl rfl
        have e6 := xs1_N hlv
        clear hlv
        refine y_next (pc' := 51) (xst_of (i := (.aload_n 0)) (len := 1) rfl rfl (x_aloadV (xisV_r _) e0)) ?_
        refine z_gA (t := (10, 0, 0)) (k := 19) rfl rfl rfl R (rc_10 R) ?_
        refine y_next (pc' := 56) (xst_of (i := (.iload 6)) (len := 2) rfl rfl (x_ilo e6)) ?_
        refine y_next (pc' := 57) (xst_of (i := (.iload_n 3)) (len := 1) rfl rfl (x_ilo e3)) ?_
        refine z_sI (t := (10, 0, 0)) (k := 19) (n := 1536) (i := ((8 * ((8 * (fI Y4 (10, 0, 0) 5)) + l1)) + l2)) rfl rfl R (rc_10 R) H.1 (fun h Y6 hY R => ?_)
        replace H := H.2 Y6 hY
        clear hY
        refine y_next (pc' := 59) (xst_of (i := (.aload_n 0)) (len := 1) rfl rfl (x_aloadV (xisV_r _) e0)) ?_
        refine z_gA (t := (10, 0, 0)) (k := 20) rfl rfl rfl R (rc_10 R) ?_
        refine y_next (pc' := 64) (xst_of (i := (.iload 6)) (len := 2) rfl rfl (x_ilo e6)) ?_
        refine y_next (pc' := 66) (xst_of (i := (.iload 4)) (len := 2) rfl rfl (x_ilo e4)) ?_
        refine z_sI (t := (10, 0, 0)) (k := 20) (n := 1536) (i := ((8 * ((8 * (fI Y4 (10, 0, 0) 5)) + l1)) + l2)) rfl rfl R (rc_10 R) H.1 (fun h Y7 hY R => ?_)
        replace H := H.2 Y7 hY
        clear hY
        refine y_next (pc' := 68) (xst_of (i := (.aload_n 0)) (len := 1) rfl rfl (x_aloadV (xisV_r _) e0)) ?_
        refine z_gA (t := (10, 0, 0)) (k := 21) rfl rfl rfl R (rc_10 R) ?_
        refine y_next (pc' := 73) (xst_of (i := (.iload 6)) (len := 2) rfl rfl (x_ilo e6)) ?_
        refine y_next (pc' := 75) (xst_of (i := (.iload 5)) (len := 2) rfl rfl (x_ilo e5)) ?_
        refine z_sI (t := (10, 0, 0)) (k := 21) (n := 1536) (i := ((8 * ((8 * (fI Y4 (10, 0, 0) 5)) + l1)) + l2)) rfl rfl R (rc_10 R) H.1 (fun h Y8 hY R => ?_)
        replace H := H.2 Y8 hY
        clear hY
        refine y_next (pc' := 77) (xst_of (i := (.iconst 1)) (len := 1) rfl rfl (x_ico (v := 1) (by decide))) ?_
        exact y_ret (xst_of (i := .ireturn) (len := 1) rfl rfl (x_zret rfl H.1)) ⟨_, _, rfl, R, H.2⟩
theorem l_139_32 {V : xV} {g : xG} {Y : xW} {l1 : Int32} {l2 : Int32} {l3 : Int32} {l4 : Int32} {l5 : Int32} {Q : Int32 → xW → Prop} (H : ((0 : Int32) = 0 ∨ (0 : Int32) = 1) ∧ Q 0 Y) : L_139_32 V g Y l1 l2 l3 l4 l5 Q := by
  intro h lv R e0 e1 e2 e3 e4 e5
  refine y_next (pc' := 33) (xst_of (i := (.iconst 0)) (len := 1) rfl rfl (x_ico (v := 0) (by decide))) ?_
  exact y_ret (xst_of (i := .ireturn) (len := 1) rfl rfl (x_zret rfl H.1)) ⟨_, _, rfl, R, H.2⟩
theorem l_140_0 {V : xV} {g : xG} {Y : xW} {l1 : Int32} {l2 : Int32} {Q : Int32 → xW → Prop} (H : ∀ Y1, Y1 = uI Y (10, 0, 0) 2 0 → (((fI Y1 (10, 0, 0) 5) < 0) → L_140_63 V g Y1 l1 l2 Q) ∧ (¬ ((fI Y1 (10, 0, 0) 5) < 0) → vp_in (fI Y1 (10, 0, 0) 5) 24 ∧ (((fA Y1 (10, 0, 0) 10 (Int32.toNatClampNeg (fI Y1 (10, 0, 0) 5))) = 8) → L_140_63 V g Y1 l1 l2 Q) ∧ (¬ ((fA Y1 (10, 0, 0) 10 (Int32.toNatClampNeg (fI Y1 (10, 0, 0) 5))) = 8) → ((l1 < 0) → L_140_63 V g Y1 l1 l2 Q) ∧ (¬ (l1 < 0) → (((fI Y1 (10, 0, 0) 3) ≤ l1) → L_140_63 V g Y1 l1 l2 Q) ∧ (¬ ((fI Y1 (10, 0, 0) 3) ≤ l1) → vp_in l1 24 ∧ (((fA Y1 (10, 0, 0) 6 (Int32.toNatClampNeg l1)) = 1) → ((l2 < 1) → L_140_63 V g Y1 l1 l2 Q) ∧ (¬ (l2 < 1) → vp_in l1 24 ∧ ((l2 < (fA Y1 (10, 0, 0) 9 (Int32.toNatClampNeg l1))) → vp_in ((8 * l1) + l2) 192 ∧ vp_in l1 24 ∧ vp_in (fI Y1 (10, 0, 0) 5) 24 ∧ (((fA Y1 (10, 0, 0) 7 (Int32.toNatClampNeg (fI Y1 (10, 0, 0) 5))) < (fA Y1 (10, 0, 0) 7 (Int32.toNatClampNeg l1))) → L_140_127 V g Y1 l1 l2 (fA Y1 (10, 0, 0) 17 (Int32.toNatClampNeg ((8 * l1) + l2))) Q) ∧ (¬ ((fA Y1 (10, 0, 0) 7 (Int32.toNatClampNeg (fI Y1 (10, 0, 0) 5))) < (fA Y1 (10, 0, 0) 7 (Int32.toNatClampNeg l1))) → vp_in ((200 * l1) + (fA Y1 (10, 0, 0) 17 (Int32.toNatClampNeg ((8 * l1) + l2)))) 4800 ∧ (((fA Y1 (10, 0, 0) 13 (Int32.toNatClampNeg ((200 * l1) + (fA Y1 (10, 0, 0) 17 (Int32.toNatClampNeg ((8 * l1) + l2)))))) = l2) → vp_in ((8 * l1) + l2) 192 ∧ (((fA Y1 (10, 0, 0) 18 (Int32.toNatClampNeg ((8 * l1) + l2))) ≤ 32) → vp_in (fI Y1 (10, 0, 0) 5) 24 ∧ vp_in ((8 * (fI Y1 (10, 0, 0) 5)) + (fA Y1 (10, 0, 0) 10 (Int32.toNatClampNeg (fI Y1 (10, 0, 0) 5)))) 192 ∧ ∀ Y2, Y2 = uA Y1 (10, 0, 0) 22 (Int32.toNatClampNeg ((8 * (fI Y1 (10, 0, 0) 5)) + (fA Y1 (10, 0, 0) 10 (Int32.toNatClampNeg (fI Y1 (10, 0, 0) 5))))) l1 → vp_in (fI Y2 (10, 0, 0) 5) 24 ∧ vp_in ((8 * (fI Y2 (10, 0, 0) 5)) + (fA Y2 (10, 0, 0) 10 (Int32.toNatClampNeg (fI Y2 (10, 0, 0) 5)))) 192 ∧ ∀ Y3, Y3 = uA Y2 (10, 0, 0) 23 (Int32.toNatClampNeg ((8 * (fI Y2 (10, 0, 0) 5)) + (fA Y2 (10, 0, 0) 10 (Int32.toNatClampNeg (fI Y2 (10, 0, 0) 5))))) l2 → vp_in (fI Y3 (10, 0, 0) 5) 24 ∧ vp_in (fI Y3 (10, 0, 0) 5) 24 ∧ ∀ Y4, Y4 = uA Y3 (10, 0, 0) 10 (Int32.toNatClampNeg (fI Y3 (10, 0, 0) 5)) ((fA Y3 (10, 0, 0) 10 (Int32.toNatClampNeg (fI Y3 (10, 0, 0) 5))) + 1) → vp_in (fI Y4 (10, 0, 0) 5) 24 ∧ Q ((fA Y4 (10, 0, 0) 10 (Int32.toNatClampNeg (fI Y4 (10, 0, 0) 5))) - 1) Y4) ∧ (¬ ((fA Y1 (10, 0, 0) 18 (Int32.toNatClampNeg ((8 * l1) + l2))) ≤ 32) → L_140_127 V g Y1 l1 l2 (fA Y1 (10, 0, 0) 17 (Int32.toNatClampNeg ((8 * l1) + l2))) Q)) ∧ (¬ ((fA Y1 (10, 0, 0) 13 (Int32.toNatClampNeg ((200 * l1) + (fA Y1 (10, 0, 0) 17 (Int32.toNatClampNeg ((8 * l1) + l2)))))) = l2) → L_140_127 V g Y1 l1 l2 (fA Y1 (10, 0, 0) 17 (Int32.toNatClampNeg ((8 * l1) + l2))) Q))) ∧ (¬ (l2 < (fA Y1 (10, 0, 0) 9 (Int32.toNatClampNeg l1))) → L_140_63 V g Y1 l1 l2 Q))) ∧ (¬ ((fA Y1 (10, 0, 0) 6 (Int32.toNatClampNeg l1)) = 1) → L_140_63 V g Y1 l1 l2 Q)))))) : L_140_0 V g Y l1 l2 Q := by
  intro h lv R e0 e1 e2
  refine y_next (pc' := 1) (xst_of (i := (.aload_n 0)) (len := 1) rfl rfl (x_aloadV (xisV_r _) e0)) ?_
  refine y_next (pc' := 2) (xst_of (i := (.iconst 0)) (len := 1) rfl rfl (x_ico (v := 0) (by decide))) ?_
  refine z_pI (t := (10, 0, 0)) (k := 2) rfl rfl rfl rfl rfl R (rc_10 R) (fun h Y1 hY R => ?_)
  replace H := H Y1 hY
  clear hY
  refine y_next (pc' := 6) (xst_of (i := (.aload_n 0)) (len := 1) rfl rfl (x_aloadV (xisV_r _) e0)) ?_
  refine z_gI (t := (10, 0, 0)) (k := 5) rfl rfl rfl R (rc_10 R) ?_
  by_cases hc : (fI Y1 (10, 0, 0) 5) < 0
  · replace H := H.1 hc
    refine y_next (xst_of (i := (.ifCond .lt 54)) (len := 3) rfl rfl (xt_if_lt (t := 63) rfl hc)) ?_
    exact H _ _ R e0 e1 e2
  · replace H := H.2 hc
    refine y_next (pc' := 12) (xst_of (i := (.ifCond .lt 54)) (len := 3) rfl rfl (xf_if_lt (t := 63) rfl hc)) ?_
    refine y_next (pc' := 13) (xst_of (i := (.aload_n 0)) (len := 1) rfl rfl (x_aloadV (xisV_r _) e0)) ?_
    refine z_gA (t := (10, 0, 0)) (k := 10) rfl rfl rfl R (rc_10 R) ?_
    refine y_next (pc' := 17) (xst_of (i := (.aload_n 0)) (len := 1) rfl rfl (x_aloadV (xisV_r _) e0)) ?_
    refine z_gI (t := (10, 0, 0)) (k := 5) rfl rfl rfl R (rc_10 R) ?_
    refine z_aI (t := (10, 0, 0)) (k := 10) (n := 24) (i := (fI Y1 (10, 0, 0) 5)) rfl rfl R (rc_10 R) H.1 ?_
    replace H := H.2
    refine y_next (pc' := 23) (xst_of (i := (.bipush 8)) (len := 2) rfl rfl (x_bip (v := 8) (by decide))) ?_
    by_cases hc : (fA Y1 (10, 0, 0) 10 (Int32.toNatClampNeg (fI Y1 (10, 0, 0) 5))) = 8
    · replace H := H.1 hc
      refine y_next (xst_of (i := (.if_icmp .eq 40)) (len := 3) rfl rfl (xt_icmp_eq (t := 63) rfl hc)) ?_
      exact H _ _ R e0 e1 e2
    · replace H := H.2 hc
      refine y_next (pc' := 26) (xst_of (i := (.if_icmp .eq 40)) (len := 3) rfl rfl (xf_icmp_eq (t := 63) rfl hc)) ?_
      refine y_next (pc' := 27) (xst_of (i := (.iload_n 1)) (len := 1) rfl rfl (x_ilo e1)) ?_
      by_cases hc : l1 < 0
      · replace H := H.1 hc
        refine y_next (xst_of (i := (.ifCond .lt 36)) (len := 3) rfl rfl (xt_if_lt (t := 63) rfl hc)) ?_
        exact H _ _ R e0 e1 e2
      · replace H := H.2 hc
        refine y_next (pc' := 30) (xst_of (i := (.ifCond .lt 36)) (len := 3) rfl rfl (xf_if_lt (t := 63) rfl hc)) ?_
        refine y_next (pc' := 31) (xst_of (i := (.iload_n 1)) (len := 1) rfl rfl (x_ilo e1)) ?_
        refine y_next (pc' := 32) (xst_of (i := (.aload_n 0)) (len := 1) rfl rfl (x_aloadV (xisV_r _) e0)) ?_
        refine z_gI (t := (10, 0, 0)) (k := 3) rfl rfl rfl R (rc_10 R) ?_
        by_cases hc : (fI Y1 (10, 0, 0) 3) ≤ l1
        · replace H := H.1 hc
          refine y_next (xst_of (i := (.if_icmp .ge 28)) (len := 3) rfl rfl (xt_icmp_ge (t := 63) rfl hc)) ?_
          exact H _ _ R e0 e1 e2
        · replace H := H.2 hc
          refine y_next (pc' := 38) (xst_of (i := (.if_icmp .ge 28)) (len := 3) rfl rfl (xf_icmp_ge (t := 63) rfl hc)) ?_
          refine y_next (pc' := 39) (xst_of (i := (.aload_n 0)) (len := 1) rfl rfl (x_aloadV (xisV_r _) e0)) ?_
          refine z_gA (t := (10, 0, 0)) (k := 6) rfl rfl rfl R (rc_10 R) ?_
          refine y_next (pc' := 43) (xst_of (i := (.iload_n 1)) (len := 1) rfl rfl (x_ilo e1)) ?_
          refine z_aI (t := (10, 0, 0)) (k := 6) (n := 24) (i := l1) rfl rfl R (rc_10 R) H.1 ?_
          replace H := H.2
          refine y_next (pc' := 45) (xst_of (i := (.iconst 1)) (len := 1) rfl rfl (x_ico (v := 1) (by decide))) ?_
          by_cases hc : (fA Y1 (10, 0, 0) 6 (Int32.toNatClampNeg l1)) = 1
          · replace H := H.1 hc
            refine y_next (pc' := 48) (xst_of (i := (.if_icmp .ne 18)) (len := 3) rfl rfl (xf_icmp_ne (t := 63) rfl (fun z => z hc))) ?_
            refine y_next (pc' := 49) (xst_of (i := (.iload_n 2)) (len := 1) rfl rfl (x_ilo e2)) ?_
            refine y_next (pc' := 50) (xst_of (i := (.iconst 1)) (len := 1) rfl rfl (x_ico (v := 1) (by decide))) ?_
            by_cases hc : l2 < 1
            · replace H := H.1 hc
              refine y_next (xst_of (i := (.if_icmp .lt 13)) (len := 3) rfl rfl (xt_icmp_lt (t := 63) rfl hc)) ?_
              exact H _ _ R e0 e1 e2
            · replace H := H.2 hc
              refine y_next (pc' := 53) (xst_of (i := (.if_icmp .lt 13)) (len := 3) rfl rfl (xf_icmp_lt (t := 63) rfl hc)) ?_
              refine y_next (pc' := 54) (xst_of (i := (.iload_n 2)) (len := 1) rfl rfl (x_ilo e2)) ?_
              refine y_next (pc' := 55) (xst_of (i := (.aload_n 0)) (len := 1) rfl rfl (x_aloadV (xisV_r _) e0)) ?_
              refine z_gA (t := (10, 0, 0)) (k := 9) rfl rfl rfl R (rc_10 R) ?_
              refine y_next (pc' := 59) (xst_of (i := (.iload_n 1)) (len := 1) rfl rfl (x_ilo e1)) ?_
              refine z_aI (t := (10, 0, 0)) (k := 9) (n := 24) (i := l1) rfl rfl R (rc_10 R) H.1 ?_
              replace H := H.2
              by_cases hc : l2 < (fA Y1 (10, 0, 0) 9 (Int32.toNatClampNeg l1))
              · replace H := H.1 hc
                refine y_next (xst_of (i := (.if_icmp .lt 5)) (len := 3) rfl rfl (xt_icmp_lt (t := 65) rfl hc)) ?_
                refine y_next (pc' := 66) (xst_of (i := (.aload_n 0)) (len := 1) rfl rfl (x_aloadV (xisV_r _) e0)) ?_
                refine z_gA (t := (10, 0, 0)) (k := 17) rfl rfl rfl R (rc_10 R) ?_
                refine y_next (pc' := 71) (xst_of (i := (.bipush 8)) (len := 2) rfl rfl (x_bip (v := 8) (by decide))) ?_
                refine y_next (pc' := 72) (xst_of (i := (.iload_n 1)) (len := 1) rfl rfl (x_ilo e1)) ?_
                refine y_next (pc' := 73) (xst_of (i := .imul) (len := 1) rfl rfl rfl) ?_
                refine y_next (pc' := 74) (xst_of (i := (.iload_n 2)) (len := 1) rfl rfl (x_ilo e2)) ?_
                refine y_next (pc' := 75) (xst_of (i := .iadd) (len := 1) rfl rfl rfl) ?_
                refine z_aI (t := (10, 0, 0)) (k := 17) (n := 192) (i := ((8 * l1) + l2)) rfl rfl R (rc_10 R) H.1 ?_
                replace H := H.2
                refine z_is (i := (.istore_n 3)) (len := 1) (pc' := 77) (q := 3) rfl rfl rfl (by decide) (fun lv1 hlv => ?_)
                have e0 := xs1_A hlv e0 rfl rfl
                have e1 := xs1_A hlv e1 rfl rfl
                have e2 := xs1_B hlv e2 rfl rfl
                have e3 := xs1_N hlv
                clear hlv
                refine y_next (pc' := 78) (xst_of (i := (.aload_n 0)) (len := 1) rfl rfl (x_aloadV (xisV_r _) e0)) ?_
                refine z_gA (t := (10, 0, 0)) (k := 7) rfl rfl rfl R (rc_10 R) ?_
                refine y_next (pc' := 82) (xst_of (i := (.iload_n 1)) (len := 1) rfl rfl (x_ilo e1)) ?_
                refine z_aI (t := (10, 0, 0)) (k := 7) (n := 24) (i := l1) rfl rfl R (rc_10 R) H.1 ?_
                replace H := H.2
                refine y_next (pc' := 84) (xst_of (i := (.aload_n 0)) (len := 1) rfl rfl (x_aloadV (xisV_r _) e0)) ?_
                refine z_gA (t := (10, 0, 0)) (k := 7) rfl rfl rfl R (rc_10 R) ?_
                refine y_next (pc' := 88) (xst_of (i := (.aload_n 0)) (len := 1) rfl rfl (x_aloadV (xisV_r _) e0)) ?_
                refine z_gI (t := (10, 0, 0)) (k := 5) rfl rfl rfl R (rc_10 R) ?_
                refine z_aI (t := (10, 0, 0)) (k := 7) (n := 24) (i := (fI Y1 (10, 0, 0) 5)) rfl rfl R (rc_10 R) H.1 ?_
                replace H := H.2
                by_cases hc : (fA Y1 (10, 0, 0) 7 (Int32.toNatClampNeg (fI Y1 (10, 0, 0) 5))) < (fA Y1 (10, 0, 0) 7 (Int32.toNatClampNeg l1))
                · replace H := H.1 hc
                  refine y_next (xst_of (i := (.if_icmp .gt 35)) (len := 3) rfl rfl (xt_icmp_gt (t := 127) rfl hc)) ?_
                  exact H _ _ R e0 e1 e2 e3
                · replace H := H.2 hc
                  refine y_next (pc' := 95) (xst_of (i := (.if_icmp .gt 35)) (len := 3) rfl rfl (xf_icmp_gt (t := 127) rfl hc)) ?_
                  refine y_next (pc' := 96) (xst_of (i := (.aload_n 0)) (len := 1) rfl rfl (x_aloadV (xisV_r _) e0)) ?_
                  refine z_gA (t := (10, 0, 0)) (k := 13) rfl rfl rfl R (rc_10 R) ?_
                  refine y_next (pc' := 102) (xst_of (i := (.sipush 200)) (len := 3) rfl rfl (x_sip (v := 200) (by decide))) ?_
                  refine y_next (pc' := 103) (xst_of (i := (.iload_n 1)) (len := 1) rfl rfl (x_ilo e1)) ?_
                  refine y_next (pc' := 104) (xst_of (i := .imul) (len := 1) rfl rfl rfl) ?_
                  refine y_next (pc' := 105) (xst_of (i := (.iload_n 3)) (len := 1) rfl rfl (x_ilo e3)) ?_
                  refine y_next (pc' := 106) (xst_of (i := .iadd) (len := 1) rfl rfl rfl) ?_
                  refine z_aI (t := (10, 0, 0)) (k := 13) (n := 4800) (i := ((200 * l1) + (fA Y1 (10, 0, 0) 17 (Int32.toNatClampNeg ((8 * l1) + l2))))) rfl rfl R (rc_10 R) H.1 ?_
                  replace H := H.2
                  refine y_next (pc' := 108) (xst_of (i := (.iload_n 2)) (len := 1) rfl rfl (x_ilo e2)) ?_
                  by_cases hc : (fA Y1 (10, 0, 0) 13 (Int32.toNatClampNeg ((200 * l1) + (fA Y1 (10, 0, 0) 17 (Int32.toNatClampNeg ((8 * l1) + l2)))))) = l2
                  · replace H := H.1 hc
                    refine y_next (pc' := 111) (xst_of (i := (.if_icmp .ne 19)) (len := 3) rfl rfl (xf_icmp_ne (t := 127) rfl (fun z => z hc))) ?_
                    refine y_next (pc' := 112) (xst_of (i := (.aload_n 0)) (len := 1) rfl rfl (x_aloadV (xisV_r _) e0)) ?_
                    refine z_gA (t := (10, 0, 0)) (k := 18) rfl rfl rfl R (rc_10 R) ?_
                    refine y_next (pc' := 117) (xst_of (i := (.bipush 8)) (len := 2) rfl rfl (x_bip (v := 8) (by decide))) ?_
                    refine y_next (pc' := 118) (xst_of (i := (.iload_n 1)) (len := 1) rfl rfl (x_ilo e1)) ?_
                    refine y_next (pc' := 119) (xst_of (i := .imul) (len := 1) rfl rfl rfl) ?_
                    refine y_next (pc' := 120) (xst_of (i := (.iload_n 2)) (len := 1) rfl rfl (x_ilo e2)) ?_
                    refine y_next (pc' := 121) (xst_of (i := .iadd) (len := 1) rfl rfl rfl) ?_
                    refine z_aI (t := (10, 0, 0)) (k := 18) (n := 192) (i := ((8 * l1) + l2)) rfl rfl R (rc_10 R) H.1 ?_
                    replace H := H.2
                    refine y_next (pc' := 124) (xst_of (i := (.bipush 32)) (len := 2) rfl rfl (x_bip (v := 32) (by decide))) ?_
                    by_cases hc : (fA Y1 (10, 0, 0) 18 (Int32.toNatClampNeg ((8 * l1) + l2))) ≤ 32
                    · replace H := H.1 hc
                      refine y_next (xst_of (i := (.if_icmp .le 5)) (len := 3) rfl rfl (xt_icmp_le (t := 129) rfl hc)) ?_
                      refine y_next (pc' := 130) (xst_of (i := (.aload_n 0)) (len := 1) rfl rfl (x_aloadV (xisV_r _) e0)) ?_
                      refine z_gA (t := (10, 0, 0)) (k := 22) rfl rfl rfl R (rc_10 R) ?_
                      refine y_next (pc' := 135) (xst_of (i := (.bipush 8)) (len := 2) rfl rfl (x_bip (v := 8) (by decide))) ?_
                      refine y_next (pc' := 136) (xst_of (i := (.aload_n 0)) (len := 1) rfl rfl (x_aloadV (xisV_r _) e0)) ?_
                      refine z_gI (t := (10, 0, 0)) (k := 5) rfl rfl rfl R (rc_10 R) ?_
                      refine y_next (pc' := 140) (xst_of (i := .imul) (len := 1) rfl rfl rfl) ?_
                      refine y_next (pc' := 141) (xst_of (i := (.aload_n 0)) (len := 1) rfl rfl (x_aloadV (xisV_r _) e0)) ?_
                      refine z_gA (t := (10, 0, 0)) (k := 10) rfl rfl rfl R (rc_10 R) ?_
                      refine y_next (pc' := 145) (xst_of (i := (.aload_n 0)) (len := 1) rfl rfl (x_aloadV (xisV_r _) e0)) ?_
                      refine z_gI (t := (10, 0, 0)) (k := 5) rfl rfl rfl R (rc_10 R) ?_
                      refine z_aI (t := (10, 0, 0)) (k := 10) (n := 24) (i := (fI Y1 (10, 0, 0) 5)) rfl rfl R (rc_10 R) H.1 ?_
                      replace H := H.2
                      refine y_next (pc' := 150) (xst_of (i := .iadd) (len := 1) rfl rfl rfl) ?_
                      refine y_next (pc' := 151) (xst_of (i := (.iload_n 1)) (len := 1) rfl rfl (x_ilo e1)) ?_
                      refine z_sI (t := (10, 0, 0)) (k := 22) (n := 192) (i := ((8 * (fI Y1 (10, 0, 0) 5)) + (fA Y1 (10, 0, 0) 10 (Int32.toNatClampNeg (fI Y1 (10, 0, 0) 5))))) rfl rfl R (rc_10 R) H.1 (fun h Y2 hY R => ?_)
                      replace H := H.2 Y2 hY
                      clear hY
                      refine y_next (pc' := 153) (xst_of (i := (.aload_n 0)) (len := 1) rfl rfl (x_aloadV (xisV_r _) e0)) ?_
                      refine z_gA (t := (10, 0, 0)) (k := 23) rfl rfl rfl R (rc_10 R) ?_
                      refine y_next (pc' := 158) (xst_of (i := (.bipush 8)) (len := 2) rfl rfl (x_bip (v := 8) (by decide))) ?_
                      refine y_next (pc' := 159) (xst_of (i := (.aload_n 0)) (len := 1) rfl rfl (x_aloadV (xisV_r _) e0)) ?_
                      refine z_gI (t := (10, 0, 0)) (k := 5) rfl rfl rfl R (rc_10 R) ?_
                      refine y_next (pc' := 163) (xst_of (i := .imul) (len := 1) rfl rfl rfl) ?_
                      refine y_next (pc' := 164) (xst_of (i := (.aload_n 0)) (len := 1) rfl rfl (x_aloadV (xisV_r _) e0)) ?_
                      refine z_gA (t := (10, 0, 0)) (k := 10) rfl rfl rfl R (rc_10 R) ?_
                      refine y_next (pc' := 168) (xst_of (i := (.aload_n 0)) (len := 1) rfl rfl (x_aloadV (xisV_r _) e0)) ?_
                      refine z_gI (t := (10, 0, 0)) (k := 5) rfl rfl rfl R (rc_10 R) ?_
                      refine z_aI (t := (10, 0, 0)) (k := 10) (n := 24) (i := (fI Y2 (10, 0, 0) 5)) rfl rfl R (rc_10 R) H.1 ?_
                      replace H := H.2
                      refine y_next (pc' := 173) (xst_of (i := .iadd) (len := 1) rfl rfl rfl) ?_
                      refine y_next (pc' := 174) (xst_of (i := (.iload_n 2)) (len := 1) rfl rfl (x_ilo e2)) ?_
                      refine z_sI (t := (10, 0, 0)) (k := 23) (n := 192) (i := ((8 * (fI Y2 (10, 0, 0) 5)) + (fA Y2 (10, 0, 0) 10 (Int32.toNatClampNeg (fI Y2 (10, 0, 0) 5))))) rfl rfl R (rc_10 R) H.1 (fun h Y3 hY R => ?_)
                      replace H := H.2 Y3 hY
                      clear hY
                      refine y_next (pc' := 176) (xst_of (i := (.aload_n 0)) (len := 1) rfl rfl (x_aloadV (xisV_r _) e0)) ?_
                      refine z_gA (t := (10, 0, 0)) (k := 10) rfl rfl rfl R (rc_10 R) ?_
                      refine y_next (pc' := 180) (xst_of (i := (.aload_n 0)) (len := 1) rfl rfl (x_aloadV (xisV_r _) e0)) ?_
                      refine z_gI (t := (10, 0, 0)) (k := 5) rfl rfl rfl R (rc_10 R) ?_
                      refine y_next (pc' := 184) (xst_of (i := .dup2) (len := 1) rfl rfl (x_dup2 rfl rfl)) ?_
                      refine z_aI (t := (10, 0, 0)) (k := 10) (n := 24) (i := (fI Y3 (10, 0, 0) 5)) rfl rfl R (rc_10 R) H.1 ?_
                      replace H := H.2
                      refine y_next (pc' := 186) (xst_of (i := (.iconst 1)) (len := 1) rfl rfl (x_ico (v := 1) (by decide))) ?_
                      refine y_next (pc' := 187) (xst_of (i := .iadd) (len := 1) rfl rfl rfl) ?_
                      refine z_sI (t := (10, 0, 0)) (k := 10) (n := 24) (i := (fI Y3 (10, 0, 0) 5)) rfl rfl R (rc_10 R) H.1 (fun h Y4 hY R => ?_)
                      replace H := H.2 Y4 hY
                      clear hY
                      refine y_next (pc' := 189) (xst_of (i := (.aload_n 0)) (len := 1) rfl rfl (x_aloadV (xisV_r _) e0)) ?_
                      refine z_gA (t := (10, 0, 0)) (k := 10) rfl rfl rfl R (rc_10 R) ?_
                      refine y_next (pc' := 193) (xst_of (i := (.aload_n 0)) (len := 1) rfl rfl (x_aloadV (xisV_r _) e0)) ?_
                      refine z_gI (t := (10, 0, 0)) (k := 5) rfl rfl rfl R (rc_10 R) ?_
                      refine z_aI (t := (10, 0, 0)) (k := 10) (n := 24) (i := (fI Y4 (10, 0, 0) 5)) rfl rfl R (rc_10 R) H.1 ?_
                      replace H := H.2
                      refine y_next (pc' := 198) (xst_of (i := (.iconst 1)) (len := 1) rfl rfl (x_ico (v := 1) (by decide))) ?_
                      refine y_next (pc' := 199) (xst_of (i := .isub) (len := 1) rfl rfl rfl) ?_
                      exact y_ret (xst_of (i := .ireturn) (len := 1) rfl rfl rfl) ⟨_, _, rfl, R, H⟩
                    · replace H := H.2 hc
                      refine y_next (pc' := 127) (xst_of (i := (.if_icmp .le 5)) (len := 3) rfl rfl (xf_icmp_le (t := 129) rfl hc)) ?_
                      exact H _ _ R e0 e1 e2 e3
                  · replace H := H.2 hc
                    refine y_next (xst_of (i := (.if_icmp .ne 19)) (len := 3) rfl rfl (xt_icmp_ne (t := 127) rfl hc)) ?_
                    exact H _ _ R e0 e1 e2 e3
              · replace H := H.2 hc
                refine y_next (pc' := 63) (xst_of (i := (.if_icmp .lt 5)) (len := 3) rfl rfl (xf_icmp_lt (t := 65) rfl hc)) ?_
                exact H _ _ R e0 e1 e2
          · replace H := H.2 hc
            refine y_next (xst_of (i := (.if_icmp .ne 18)) (len := 3) rfl rfl (xt_icmp_ne (t := 63) rfl hc)) ?_
            exact H _ _ R e0 e1 e2
theorem l_140_63 {V : xV} {g : xG} {Y : xW} {l1 : Int32} {l2 : Int32} {Q : Int32 → xW → Prop} (H : Q (-1) Y) : L_140_63 V g Y l1 l2 Q := by
  intro h lv R e0 e1 e2
  refine y_next (pc' := 64) (xst_of (i := (.iconst (-1))) (len := 1) rfl rfl (x_ico (v := (-1)) (by decide))) ?_
  exact y_ret (xst_of (i := .ireturn) (len := 1) rfl rfl rfl) ⟨_, _, rfl, R, H⟩
theorem l_140_127 {V : xV} {g : xG} {Y : xW} {l1 : Int32} {l2 : Int32} {l3 : Int32} {Q : Int32 → xW → Prop} (H : Q (-1) Y) : L_140_127 V g Y l1 l2 l3 Q := by
  intro h lv R e0 e1 e2 e3
  refine y_next (pc' := 128) (xst_of (i := (.iconst (-1))) (len := 1) rfl rfl (x_ico (v := (-1)) (by decide))) ?_
  exact y_ret (xst_of (i := .ireturn) (len := 1) rfl rfl rfl) ⟨_, _, rfl, R, H⟩
theorem l_141_0 {V : xV} {g : xG} {Y : xW} {l1 : Int32} {Q : xW → Prop} (H : (((fI Y (10, 0, 0) 29) = 0) → ∀ Y1, Y1 = uI Y (10, 0, 0) 29 l1 → L_141_12 V g Y1 l1 Q) ∧ (¬ ((fI Y (10, 0, 0) 29) = 0) → L_141_12 V g Y l1 Q)) : L_141_0 V g Y l1 Q := by
  intro h lv R e0 e1
  refine y_next (pc' := 1) (xst_of (i := (.aload_n 0)) (len := 1) rfl rfl (x_aloadV (xisV_r _) e0)) ?_
  refine z_gI (t := (10, 0, 0)) (k := 29) rfl rfl rfl R (rc_10 R) ?_
  by_cases hc : (fI Y (10, 0, 0) 29) = 0
  · replace H := H.1 hc
    refine y_next (pc' := 7) (xst_of (i := (.ifCond .ne 8)) (len := 3) rfl rfl (xf_if_ne (t := 12) rfl (fun z => z hc))) ?_
    refine y_next (pc' := 8) (xst_of (i := (.aload_n 0)) (len := 1) rfl rfl (x_aloadV (xisV_r _) e0)) ?_
    refine y_next (pc' := 9) (xst_of (i := (.iload_n 1)) (len := 1) rfl rfl (x_ilo e1)) ?_
    refine z_pI (t := (10, 0, 0)) (k := 29) rfl rfl rfl rfl rfl R (rc_10 R) (fun h Y1 hY R => ?_)
    replace H := H Y1 hY
    clear hY
    exact H _ _ R e0 e1
  · replace H := H.2 hc
    refine y_next (xst_of (i := (.ifCond .ne 8)) (len := 3) rfl rfl (xt_if_ne (t := 12) rfl hc)) ?_
    exact H _ _ R e0 e1
theorem l_141_12 {V : xV} {g : xG} {Y : xW} {l1 : Int32} {Q : xW → Prop} (H : Q Y) : L_141_12 V g Y l1 Q := by
  intro h lv R e0 e1
  exact y_ret (xst_of (i := .return_) (len := 1) rfl rfl rfl) ⟨_, rfl, R, H⟩
theorem l_142_0 {V : xV} {g : xG} {Y : xW} {l0 : Int32} {l1 : Int32} {l2 : Int32} {l3 : Int32} {l4 : Int32} {l5 : Int32} {Q : Int32 → xW → Prop} (H : ((l3 = 0) → L_142_21 V g Y l0 l1 l2 l3 l4 l5 Q) ∧ (¬ (l3 = 0) → ((l0 = l3) → ((l1 < l4) → L_142_25 V g Y l0 l1 l2 l3 l4 l5 Q) ∧ (¬ (l1 < l4) → ((l5 < l2) → L_142_25 V g Y l0 l1 l2 l3 l4 l5 Q) ∧ (¬ (l5 < l2) → L_142_21 V g Y l0 l1 l2 l3 l4 l5 Q))) ∧ (¬ (l0 = l3) → L_142_25 V g Y l0 l1 l2 l3 l4 l5 Q))) : L_142_0 V g Y l0 l1 l2 l3 l4 l5 Q := by
  intro h lv R e0 e1 e2 e3 e4 e5
  refine y_next (pc' := 1) (xst_of (i := (.iload_n 3)) (len := 1) rfl rfl (x_ilo e3)) ?_
  by_cases hc : l3 = 0
  · replace H := H.1 hc
    refine y_next (xst_of (i := (.ifCond .eq 20)) (len := 3) rfl rfl (xt_if_eq (t := 21) rfl hc)) ?_
    exact H _ _ R e0 e1 e2 e3 e4 e5
  · replace H := H.2 hc
    refine y_next (pc' := 4) (xst_of (i := (.ifCond .eq 20)) (len := 3) rfl rfl (xf_if_eq (t := 21) rfl hc)) ?_
    refine y_next (pc' := 5) (xst_of (i := (.iload_n 0)) (len := 1) rfl rfl (x_ilo e0)) ?_
    refine y_next (pc' := 6) (xst_of (i := (.iload_n 3)) (len := 1) rfl rfl (x_ilo e3)) ?_
    by_cases hc : l0 = l3
    · replace H := H.1 hc
      refine y_next (pc' := 9) (xst_of (i := (.if_icmp .ne 19)) (len := 3) rfl rfl (xf_icmp_ne (t := 25) rfl (fun z => z hc))) ?_
      refine y_next (pc' := 10) (xst_of (i := (.iload_n 1)) (len := 1) rfl rfl (x_ilo e1)) ?_
      refine y_next (pc' := 12) (xst_of (i := (.iload 4)) (len := 2) rfl rfl (x_ilo e4)) ?_
      by_cases hc : l1 < l4
      · replace H := H.1 hc
        refine y_next (xst_of (i := (.if_icmp .lt 13)) (len := 3) rfl rfl (xt_icmp_lt (t := 25) rfl hc)) ?_
        exact H _ _ R e0 e1 e2 e3 e4 e5
      · replace H := H.2 hc
        refine y_next (pc' := 15) (xst_of (i := (.if_icmp .lt 13)) (len := 3) rfl rfl (xf_icmp_lt (t := 25) rfl hc)) ?_
        refine y_next (pc' := 16) (xst_of (i := (.iload_n 2)) (len := 1) rfl rfl (x_ilo e2)) ?_
        refine y_next (pc' := 18) (xst_of (i := (.iload 5)) (len := 2) rfl rfl (x_ilo e5)) ?_
        by_cases hc : l5 < l2
        · replace H := H.1 hc
          refine y_next (xst_of (i := (.if_icmp .gt 7)) (len := 3) rfl rfl (xt_icmp_gt (t := 25) rfl hc)) ?_
          exact H _ _ R e0 e1 e2 e3 e4 e5
        · replace H := H.2 hc
          refine y_next (pc' := 21) (xst_of (i := (.if_icmp .gt 7)) (len := 3) rfl rfl (xf_icmp_gt (t := 25) rfl hc)) ?_
          exact H _ _ R e0 e1 e2 e3 e4 e5
    · replace H := H.2 hc
      refine y_next (xst_of (i := (.if_icmp .ne 19)) (len := 3) rfl rfl (xt_icmp_ne (t := 25) rfl hc)) ?_
      exact H _ _ R e0 e1 e2 e3 e4 e5
theorem l_142_21 {V : xV} {g : xG} {Y : xW} {l0 : Int32} {l1 : Int32} {l2 : Int32} {l3 : Int32} {l4 : Int32} {l5 : Int32} {Q : Int32 → xW → Prop} (H : L_142_26 V g Y l0 l1 l2 l3 l4 l5 1 Q) : L_142_21 V g Y l0 l1 l2 l3 l4 l5 Q := by
  intro h lv R e0 e1 e2 e3 e4 e5
  refine y_next (pc' := 22) (xst_of (i := (.iconst 1)) (len := 1) rfl rfl (x_ico (v := 1) (by decide))) ?_
  refine y_next (pc' := 26) (xst_of (i := (.goto 4)) (len := 3) rfl rfl rfl) ?_
  exact H _ _ R e0 e1 e2 e3 e4 e5
theorem l_142_25 {V : xV} {g : xG} {Y : xW} {l0 : Int32} {l1 : Int32} {l2 : Int32} {l3 : Int32} {l4 : Int32} {l5 : Int32} {Q : Int32 → xW → Prop} (H : L_142_26 V g Y l0 l1 l2 l3 l4 l5 0 Q) : L_142_25 V g Y l0 l1 l2 l3 l4 l5 Q := by
  intro h lv R e0 e1 e2 e3 e4 e5
  refine y_next (pc' := 26) (xst_of (i := (.iconst 0)) (len := 1) rfl rfl (x_ico (v := 0) (by decide))) ?_
  exact H _ _ R e0 e1 e2 e3 e4 e5
theorem l_142_26 {V : xV} {g : xG} {Y : xW} {l0 : Int32} {l1 : Int32} {l2 : Int32} {l3 : Int32} {l4 : Int32} {l5 : Int32} {s0 : Int32} {Q : Int32 → xW → Prop} (H : (s0 = 0 ∨ s0 = 1) ∧ Q s0 Y) : L_142_26 V g Y l0 l1 l2 l3 l4 l5 s0 Q := by
  intro h lv R e0 e1 e2 e3 e4 e5
  exact y_ret (xst_of (i := .ireturn) (len := 1) rfl rfl (x_zret rfl H.1)) ⟨_, _, rfl, R, H.2⟩
theorem l_143_0 {V : xV} {g : xG} {Y : xW} {l1 : Int32} {Q : Int32 → xW → Prop} (H : L_143_4 V g Y l1 1 0 Q) : L_143_0 V g Y l1 Q := by
  intro h lv R e0 e1
  refine y_next (pc' := 1) (xst_of (i := (.iconst 1)) (len := 1) rfl rfl (x_ico (v := 1) (by decide))) ?_
  refine z_is (i := (.istore_n 2)) (len := 1) (pc' := 2) (q := 2) rfl rfl rfl (by decide) (fun lv1 hlv => ?_)
  have e0 := xs1_A hlv e0 rfl rfl
  have e1 := xs1_B hlv e1 rfl rfl
  have e2 := xs1_N hlv
  clear hlv
  refine y_next (pc' := 3) (xst_of (i := (.iconst 0)) (len := 1) rfl rfl (x_ico (v := 0) (by decide))) ?_
  refine z_is (i := (.istore_n 3)) (len := 1) (pc' := 4) (q := 3) rfl rfl rfl (by decide) (fun lv2 hlv => ?_)
  have e0 := xs1_A hlv e0 rfl rfl
  have e1 := xs1_A hlv e1 rfl rfl
  have e2 := xs1_B hlv e2 rfl rfl
  have e3 := xs1_N hlv
  clear hlv
  exact H _ _ R e0 e1 e2 e3
theorem l_143_4 {V : xV} {g : xG} {Y : xW} {l1 : Int32} {l2 : Int32} {l3 : Int32} {Q : Int32 → xW → Prop} (H : ((8 ≤ l3) → (l2 = 0 ∨ l2 = 1) ∧ Q l2 Y) ∧ (¬ (8 ≤ l3) → ((l2 = 0) → L_143_75 V g Y l1 l2 l3 Q) ∧ (¬ (l2 = 0) → vp_in l3 8 ∧ vp_in l3 8 ∧ vp_in l3 8 ∧ vp_in ((8 * l1) + l3) 38400 ∧ vp_in ((8 * l1) + l3) 38400 ∧ vp_in ((8 * l1) + l3) 38400 ∧ L_142_0 V g Y (fA Y (10, 0, 0) 24 (Int32.toNatClampNeg l3)) (fA Y (10, 0, 0) 25 (Int32.toNatClampNeg l3)) (fA Y (10, 0, 0) 26 (Int32.toNatClampNeg l3)) (fA Y (10, 0, 0) 14 (Int32.toNatClampNeg ((8 * l1) + l3))) (fA Y (10, 0, 0) 15 (Int32.toNatClampNeg ((8 * l1) + l3))) (fA Y (10, 0, 0) 16 (Int32.toNatClampNeg ((8 * l1) + l3))) (fun x2 Y1 => ((x2 = 0) → L_143_75 V g Y1 l1 l2 l3 Q) ∧ (¬ (x2 = 0) → L_143_76 V g Y1 l1 l2 l3 1 Q))))) : L_143_4 V g Y l1 l2 l3 Q := by
  intro h lv R e0 e1 e2 e3
  refine y_next (pc' := 5) (xst_of (i := (.iload_n 3)) (len := 1) rfl rfl (x_ilo e3)) ?_
  refine y_next (pc' := 7) (xst_of (i := (.bipush 8)) (len := 2) rfl rfl (x_bip (v := 8) (by decide))) ?_
  by_cases hc : 8 ≤ l3
  · replace H := H.1 hc
    refine y_next (xst_of (i := (.if_icmp .ge 76)) (len := 3) rfl rfl (xt_icmp_ge (t := 83) rfl hc)) ?_
    refine y_next (pc' := 84) (xst_of (i := (.iload_n 2)) (len := 1) rfl rfl (x_ilo e2)) ?_
    exact y_ret (xst_of (i := .ireturn) (len := 1) rfl rfl (x_zret rfl H.1)) ⟨_, _, rfl, R, H.2⟩
  · replace H := H.2 hc
    refine y_next (pc' := 10) (xst_of (i := (.if_icmp .ge 76)) (len := 3) rfl rfl (xf_icmp_ge (t := 83) rfl hc)) ?_
    refine y_next (pc' := 11) (xst_of (i := (.iload_n 2)) (len := 1) rfl rfl (x_ilo e2)) ?_
    by_cases hc : l2 = 0
    · replace H := H.1 hc
      refine y_next (xst_of (i := (.ifCond .eq 64)) (len := 3) rfl rfl (xt_if_eq (t := 75) rfl hc)) ?_
      exact H _ _ R e0 e1 e2 e3
    · replace H := H.2 hc
      refine y_next (pc' := 14) (xst_of (i := (.ifCond .eq 64)) (len := 3) rfl rfl (xf_if_eq (t := 75) rfl hc)) ?_
      refine y_next (pc' := 15) (xst_of (i := (.aload_n 0)) (len := 1) rfl rfl (x_aloadV (xisV_r _) e0)) ?_
      refine z_gA (t := (10, 0, 0)) (k := 24) rfl rfl rfl R (rc_10 R) ?_
      refine y_next (pc' := 19) (xst_of (i := (.iload_n 3)) (len := 1) rfl rfl (x_ilo e3)) ?_
      refine z_aI (t := (10, 0, 0)) (k := 24) (n := 8) (i := l3) rfl rfl R (rc_10 R) H.1 ?_
      replace H := H.2
      refine y_next (pc' := 21) (xst_of (i := (.aload_n 0)) (len := 1) rfl rfl (x_aloadV (xisV_r _) e0)) ?_
      refine z_gA (t := (10, 0, 0)) (k := 25) rfl rfl rfl R (rc_10 R) ?_
      refine y_next (pc' := 25) (xst_of (i := (.iload_n 3)) (len := 1) rfl rfl (x_ilo e3)) ?_
      refine z_aI (t := (10, 0, 0)) (k := 25) (n := 8) (i := l3) rfl rfl R (rc_10 R) H.1 ?_
      replace H := H.2
      refine y_next (pc' := 27) (xst_of (i := (.aload_n 0)) (len := 1) rfl rfl (x_aloadV (xisV_r _) e0)) ?_
      refine z_gA (t := (10, 0, 0)) (k := 26) rfl rfl rfl R (rc_10 R) ?_
      refine y_next (pc' := 31) (xst_of (i := (.iload_n 3)) (len := 1) rfl rfl (x_ilo e3)) ?_
      refine z_aI (t := (10, 0, 0)) (k := 26) (n := 8) (i := l3) rfl rfl R (rc_10 R) H.1 ?_
      replace H := H.2
      refine y_next (pc' := 33) (xst_of (i := (.aload_n 0)) (len := 1) rfl rfl (x_aloadV (xisV_r _) e0)) ?_
      refine z_gA (t := (10, 0, 0)) (k := 14) rfl rfl rfl R (rc_10 R) ?_
      refine y_next (pc' := 38) (xst_of (i := (.bipush 8)) (len := 2) rfl rfl (x_bip (v := 8) (by decide))) ?_
      refine y_next (pc' := 39) (xst_of (i := (.iload_n 1)) (len := 1) rfl rfl (x_ilo e1)) ?_
      refine y_next (pc' := 40) (xst_of (i := .imul) (len := 1) rfl rfl rfl) ?_
      refine y_next (pc' := 41) (xst_of (i := (.iload_n 3)) (len := 1) rfl rfl (x_ilo e3)) ?_
      refine y_next (pc' := 42) (xst_of (i := .iadd) (len := 1) rfl rfl rfl) ?_
      refine z_aI (t := (10, 0, 0)) (k := 14) (n := 38400) (i := ((8 * l1) + l3)) rfl rfl R (rc_10 R) H.1 ?_
      replace H := H.2
      refine y_next (pc' := 44) (xst_of (i := (.aload_n 0)) (len := 1) rfl rfl (x_aloadV (xisV_r _) e0)) ?_
      refine z_gA (t := (10, 0, 0)) (k := 15) rfl rfl rfl R (rc_10 R) ?_
      refine y_next (pc' := 49) (xst_of (i := (.bipush 8)) (len := 2) rfl rfl (x_bip (v := 8) (by decide))) ?_
      refine y_next (pc' := 50) (xst_of (i := (.iload_n 1)) (len := 1) rfl rfl (x_ilo e1)) ?_
      refine y_next (pc' := 51) (xst_of (i := .imul) (len := 1) rfl rfl rfl) ?_
      refine y_next (pc' := 52) (xst_of (i := (.iload_n 3)) (len := 1) rfl rfl (x_ilo e3)) ?_
      refine y_next (pc' := 53) (xst_of (i := .iadd) (len := 1) rfl rfl rfl) ?_
      refine z_aI (t := (10, 0, 0)) (k := 15) (n := 38400) (i := ((8 * l1) + l3)) rfl rfl R (rc_10 R) H.1 ?_
      replace H := H.2
      refine y_next (pc' := 55) (xst_of (i := (.aload_n 0)) (len := 1) rfl rfl (x_aloadV (xisV_r _) e0)) ?_
      refine z_gA (t := (10, 0, 0)) (k := 16) rfl rfl rfl R (rc_10 R) ?_
      refine y_next (pc' := 60) (xst_of (i := (.bipush 8)) (len := 2) rfl rfl (x_bip (v := 8) (by decide))) ?_
      refine y_next (pc' := 61) (xst_of (i := (.iload_n 1)) (len := 1) rfl rfl (x_ilo e1)) ?_
      refine y_next (pc' := 62) (xst_of (i := .imul) (len := 1) rfl rfl rfl) ?_
      refine y_next (pc' := 63) (xst_of (i := (.iload_n 3)) (len := 1) rfl rfl (x_ilo e3)) ?_
      refine y_next (pc' := 64) (xst_of (i := .iadd) (len := 1) rfl rfl rfl) ?_
      refine z_aI (t := (10, 0, 0)) (k := 16) (n := 38400) (i := ((8 * l1) + l3)) rfl rfl R (rc_10 R) H.1 ?_
      replace H := H.2
      refine z_cI (k := 142) (i := (.invokestatic 177)) (as := [.int (fA Y (10, 0, 0) 24 (Int32.toNatClampNeg l3)), .int (fA Y (10, 0, 0) 25 (Int32.toNatClampNeg l3)), .int (fA Y (10, 0, 0) 26 (Int32.toNatClampNeg l3)), .int (fA Y (10, 0, 0) 14 (Int32.toNatClampNeg ((8 * l1) + l3))), .int (fA Y (10, 0, 0) 15 (Int32.toNatClampNeg ((8 * l1) + l3))), .int (fA Y (10, 0, 0) 16 (Int32.toNatClampNeg ((8 * l1) + l3)))]) (rest := []) rfl rfl rfl (H _ _ R rfl rfl rfl rfl rfl rfl) (fun x2 h Y1 R H => ?_)
      by_cases hc : x2 = 0
      · replace H := H.1 hc
        refine y_next (xst_of (i := (.ifCond .eq 7)) (len := 3) rfl rfl (xt_if_eq (t := 75) rfl hc)) ?_
        exact H _ _ R e0 e1 e2 e3
      · replace H := H.2 hc
        refine y_next (pc' := 71) (xst_of (i := (.ifCond .eq 7)) (len := 3) rfl rfl (xf_if_eq (t := 75) rfl hc)) ?_
        refine y_next (pc' := 72) (xst_of (i := (.iconst 1)) (len := 1) rfl rfl (x_ico (v := 1) (by decide))) ?_
        refine y_next (pc' := 76) (xst_of (i := (.goto 4)) (len := 3) rfl rfl rfl) ?_
        exact H _ _ R e0 e1 e2 e3
theorem l_143_75 {V : xV} {g : xG} {Y : xW} {l1 : Int32} {l2 : Int32} {l3 : Int32} {Q : Int32 → xW → Prop} (H : L_143_76 V g Y l1 l2 l3 0 Q) : L_143_75 V g Y l1 l2 l3 Q := by
  intro h lv R e0 e1 e2 e3
  refine y_next (pc' := 76) (xst_of (i := (.iconst 0)) (len := 1) rfl rfl (x_ico (v := 0) (by decide))) ?_
  exact H _ _ R e0 e1 e2 e3
theorem l_143_76 {V : xV} {g : xG} {Y : xW} {l1 : Int32} {l2 : Int32} {l3 : Int32} {s0 : Int32} {Q : Int32 → xW → Prop} (H : L_143_4 V g Y l1 s0 (l3 + 1) Q) : L_143_76 V g Y l1 l2 l3 s0 Q := by
  intro h lv R e0 e1 e2 e3
  refine z_is (i := (.istore_n 2)) (len := 1) (pc' := 77) (q := 2) rfl rfl rfl (by decide) (fun lv1 hlv => ?_)
  have e0 := xs1_A hlv e0 rfl rfl
  have e1 := xs1_B hlv e1 rfl rfl
  have e3 := xs1_A hlv e3 rfl rfl
  have e2 := xs1_N hlv
  clear hlv
  refine z_in (q := 3) (n := 1) (v := 1) rfl e3 (by decide) (by decide) (fun lv2 hlv => ?_)
  have e0 := xs1_A hlv e0 rfl rfl
  have e1 := xs1_A hlv e1 rfl rfl
  have e2 := xs1_B hlv e2 rfl rfl
  have e3 := xs1_N hlv
  clear hlv
  refine y_next (pc' := 4) (xst_of (i := (.goto (-76))) (len := 3) rfl rfl rfl) ?_
  exact H _ _ R e0 e1 e2 e3
theorem l_144_0 {V : xV} {g : xG} {Y : xW} {l1 : Int32} {Q : Int32 → xW → Prop} (H : vp_in (fI Y (10, 0, 0) 5) 24 ∧ (((fA Y (10, 0, 0) 8 (Int32.toNatClampNeg (fI Y (10, 0, 0) 5))) ≤ l1) → L_144_32 V g Y l1 (-1) Q) ∧ (¬ ((fA Y (10, 0, 0) 8 (Int32.toNatClampNeg (fI Y (10, 0, 0) 5))) ≤ l1) → vp_in ((200 * (fI Y (10, 0, 0) 5)) + l1) 4800 ∧ L_144_32 V g Y l1 (fA Y (10, 0, 0) 13 (Int32.toNatClampNeg ((200 * (fI Y (10, 0, 0) 5)) + l1))) Q)) : L_144_0 V g Y l1 Q := by
  intro h lv R e0 e1
  refine y_next (pc' := 1) (xst_of (i := (.iload_n 1)) (len := 1) rfl rfl (x_ilo e1)) ?_
  refine y_next (pc' := 2) (xst_of (i := (.aload_n 0)) (len := 1) rfl rfl (x_aloadV (xisV_r _) e0)) ?_
  refine z_gA (t := (10, 0, 0)) (k := 8) rfl rfl rfl R (rc_10 R) ?_
  refine y_next (pc' := 6) (xst_of (i := (.aload_n 0)) (len := 1) rfl rfl (x_aloadV (xisV_r _) e0)) ?_
  refine z_gI (t := (10, 0, 0)) (k := 5) rfl rfl rfl R (rc_10 R) ?_
  refine z_aI (t := (10, 0, 0)) (k := 8) (n := 24) (i := (fI Y (10, 0, 0) 5)) rfl rfl R (rc_10 R) H.1 ?_
  replace H := H.2
  by_cases hc : (fA Y (10, 0, 0) 8 (Int32.toNatClampNeg (fI Y (10, 0, 0) 5))) ≤ l1
  · replace H := H.1 hc
    refine y_next (xst_of (i := (.if_icmp .ge 21)) (len := 3) rfl rfl (xt_icmp_ge (t := 31) rfl hc)) ?_
    refine y_next (pc' := 32) (xst_of (i := (.iconst (-1))) (len := 1) rfl rfl (x_ico (v := (-1)) (by decide))) ?_
    exact H _ _ R e0 e1
  · replace H := H.2 hc
    refine y_next (pc' := 13) (xst_of (i := (.if_icmp .ge 21)) (len := 3) rfl rfl (xf_icmp_ge (t := 31) rfl hc)) ?_
    refine y_next (pc' := 14) (xst_of (i := (.aload_n 0)) (len := 1) rfl rfl (x_aloadV (xisV_r _) e0)) ?_
    refine z_gA (t := (10, 0, 0)) (k := 13) rfl rfl rfl R (rc_10 R) ?_
    refine y_next (pc' := 20) (xst_of (i := (.sipush 200)) (len := 3) rfl rfl (x_sip (v := 200) (by decide))) ?_
    refine y_next (pc' := 21) (xst_of (i := (.aload_n 0)) (len := 1) rfl rfl (x_aloadV (xisV_r _) e0)) ?_
    refine z_gI (t := (10, 0, 0)) (k := 5) rfl rfl rfl R (rc_10 R) ?_
    refine y_next (pc' := 25) (xst_of (i := .imul) (len := 1) rfl rfl rfl) ?_
    refine y_next (pc' := 26) (xst_of (i := (.iload_n 1)) (len := 1) rfl rfl (x_ilo e1)) ?_
    refine y_next (pc' := 27) (xst_of (i := .iadd) (len := 1) rfl rfl rfl) ?_
    refine z_aI (t := (10, 0, 0)) (k := 13) (n := 4800) (i := ((200 * (fI Y (10, 0, 0) 5)) + l1)) rfl rfl R (rc_10 R) H.1 ?_
    replace H := H.2
    refine y_next (pc' := 32) (xst_of (i := (.goto 4)) (len := 3) rfl rfl rfl) ?_
    exact H _ _ R e0 e1
theorem l_144_32 {V : xV} {g : xG} {Y : xW} {l1 : Int32} {s0 : Int32} {Q : Int32 → xW → Prop} (H : Q s0 Y) : L_144_32 V g Y l1 s0 Q := by
  intro h lv R e0 e1
  exact y_ret (xst_of (i := .ireturn) (len := 1) rfl rfl rfl) ⟨_, _, rfl, R, H⟩
