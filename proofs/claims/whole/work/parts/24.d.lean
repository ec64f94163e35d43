theorem l_42_0 {V : xV} {g : xG} {Y : xW} {l0 : xT} {l1 : Int32} {Q : Int32 → xW → Prop} (H : ((l1 < 0) → L_42_16 V g Y l0 l1 Q) ∧ (¬ (l1 < 0) → (((fI Y l0 5) ≤ l1) → L_42_16 V g Y l0 l1 Q) ∧ (¬ ((fI Y l0 5) ≤ l1) → L_42_17 V g Y l0 l1 1 Q))) : L_42_0 V g Y l0 l1 Q := by
  intro h lv R e0 e1 ok_l0
  refine y_next (pc' := 1) (xst_of (i := (.iload_n 1)) (len := 1) rfl rfl (x_ilo e1)) ?_
  by_cases hc : l1 < 0
  · replace H := H.1 hc
    refine y_next (xst_of (i := (.ifCond .lt 15)) (len := 3) rfl rfl (xt_if_lt (t := 16) rfl hc)) ?_
    exact H _ _ R e0 e1 ok_l0
  · replace H := H.2 hc
    refine y_next (pc' := 4) (xst_of (i := (.ifCond .lt 15)) (len := 3) rfl rfl (xf_if_lt (t := 16) rfl hc)) ?_
    refine y_next (pc' := 5) (xst_of (i := (.iload_n 1)) (len := 1) rfl rfl (x_ilo e1)) ?_
    refine y_next (pc' := 6) (xst_of (i := (.aload_n 0)) (len := 1) rfl rfl (x_aloadV (xisV_r _) e0)) ?_
    refine z_gI (t := l0) (k := 5) rfl rfl rfl R ok_l0 ?_
    by_cases hc : (fI Y l0 5) ≤ l1
    · replace H := H.1 hc
      refine y_next (xst_of (i := (.if_icmp .ge 7)) (len := 3) rfl rfl (xt_icmp_ge (t := 16) rfl hc)) ?_
      exact H _ _ R e0 e1 ok_l0
    · replace H := H.2 hc
      refine y_next (pc' := 12) (xst_of (i := (.if_icmp .ge 7)) (len := 3) rfl rfl (xf_icmp_ge (t := 16) rfl hc)) ?_
      refine y_next (pc' := 13) (xst_of (i := (.iconst 1)) (len := 1) rfl rfl (x_ico (v := 1) (by decide))) ?_
      refine y_next (pc' := 17) (xst_of (i := (.goto 4)) (len := 3) rfl rfl rfl) ?_
      exact H _ _ R e0 e1 ok_l0
theorem l_42_16 {V : xV} {g : xG} {Y : xW} {l0 : xT} {l1 : Int32} {Q : Int32 → xW → Prop} (H : L_42_17 V g Y l0 l1 0 Q) : L_42_16 V g Y l0 l1 Q := by
  intro h lv R e0 e1 ok_l0
  refine y_next (pc' := 17) (xst_of (i := (.iconst 0)) (len := 1) rfl rfl (x_ico (v := 0) (by decide))) ?_
  exact H _ _ R e0 e1 ok_l0
theorem l_42_17 {V : xV} {g : xG} {Y : xW} {l0 : xT} {l1 : Int32} {s0 : Int32} {Q : Int32 → xW → Prop} (H : (s0 = 0 ∨ s0 = 1) ∧ Q s0 Y) : L_42_17 V g Y l0 l1 s0 Q := by
  intro h lv R e0 e1 ok_l0
  exact y_ret (xst_of (i := .ireturn) (len := 1) rfl rfl (x_zret rfl H.1)) ⟨_, _, rfl, R, H.2⟩
theorem l_43_0 {V : xV} {g : xG} {Y : xW} {l0 : xT} {l1 : Int32} {Q : Int32 → xW → Prop} (H : ((l1 < 0) → L_43_21 V g Y l0 l1 Q) ∧ (¬ (l1 < 0) → (((fI Y l0 5) ≤ l1) → L_43_21 V g Y l0 l1 Q) ∧ (¬ ((fI Y l0 5) ≤ l1) → vp_in l1 200 ∧ L_43_22 V g Y l0 l1 (fA Y l0 1 (Int32.toNatClampNeg l1)) Q))) : L_43_0 V g Y l0 l1 Q := by
  intro h lv R e0 e1 ok_l0
  refine y_next (pc' := 1) (xst_of (i := (.iload_n 1)) (len := 1) rfl rfl (x_ilo e1)) ?_
  by_cases hc : l1 < 0
  · replace H := H.1 hc
    refine y_next (xst_of (i := (.ifCond .lt 20)) (len := 3) rfl rfl (xt_if_lt (t := 21) rfl hc)) ?_
    exact H _ _ R e0 e1 ok_l0
  · replace H := H.2 hc
    refine y_next (pc' := 4) (xst_of (i := (.ifCond .lt 20)) (len := 3) rfl rfl (xf_if_lt (t := 21) rfl hc)) ?_
    refine y_next (pc' := 5) (xst_of (i := (.iload_n 1)) (len := 1) rfl rfl (x_ilo e1)) ?_
    refine y_next (pc' := 6) (xst_of (i := (.aload_n 0)) (len := 1) rfl rfl (x_aloadV (xisV_r _) e0)) ?_
    refine z_gI (t := l0) (k := 5) rfl rfl rfl R ok_l0 ?_
    by_cases hc : (fI Y l0 5) ≤ l1
    · replace H := H.1 hc
      refine y_next (xst_of (i := (.if_icmp .ge 12)) (len := 3) rfl rfl (xt_icmp_ge (t := 21) rfl hc)) ?_
      exact H _ _ R e0 e1 ok_l0
    · replace H := H.2 hc
      refine y_next (pc' := 12) (xst_of (i := (.if_icmp .ge 12)) (len := 3) rfl rfl (xf_icmp_ge (t := 21) rfl hc)) ?_
      refine y_next (pc' := 13) (xst_of (i := (.aload_n 0)) (len := 1) rfl rfl (x_aloadV (xisV_r _) e0)) ?_
      refine z_gA (t := l0) (k := 1) rfl rfl rfl R ok_l0 ?_
      refine y_next (pc' := 17) (xst_of (i := (.iload_n 1)) (len := 1) rfl rfl (x_ilo e1)) ?_
      refine z_aI (t := l0) (k := 1) (n := 200) (i := l1) rfl rfl R ok_l0 H.1 ?_
      replace H := H.2
      refine y_next (pc' := 22) (xst_of (i := (.goto 4)) (len := 3) rfl rfl rfl) ?_
      exact H _ _ R e0 e1 ok_l0
theorem l_43_21 {V : xV} {g : xG} {Y : xW} {l0 : xT} {l1 : Int32} {Q : Int32 → xW → Prop} (H : L_43_22 V g Y l0 l1 0 Q) : L_43_21 V g Y l0 l1 Q := by
  intro h lv R e0 e1 ok_l0
  refine y_next (pc' := 22) (xst_of (i := (.iconst 0)) (len := 1) rfl rfl (x_ico (v := 0) (by decide))) ?_
  exact H _ _ R e0 e1 ok_l0
theorem l_43_22 {V : xV} {g : xG} {Y : xW} {l0 : xT} {l1 : Int32} {s0 : Int32} {Q : Int32 → xW → Prop} (H : Q s0 Y) : L_43_22 V g Y l0 l1 s0 Q := by
  intro h lv R e0 e1 ok_l0
  exact y_ret (xst_of (i := .ireturn) (len := 1) rfl rfl rfl) ⟨_, _, rfl, R, H⟩
theorem l_44_0 {V : xV} {g : xG} {Y : xW} {l0 : xT} {l1 : Int32} {Q : Option xT → xW → Prop} (H : ((l1 < 0) → L_44_21 V g Y l0 l1 Q) ∧ (¬ (l1 < 0) → (((fI Y l0 5) ≤ l1) → L_44_21 V g Y l0 l1 Q) ∧ (¬ ((fI Y l0 5) ≤ l1) → vp_in l1 200 ∧ ∀ o1, o1 = fR Y l0 2 (Int32.toNatClampNeg l1) → L_44_22 V g Y l0 l1 o1 Q))) : L_44_0 V g Y l0 l1 Q := by
  intro h lv R e0 e1 ok_l0
  refine y_next (pc' := 1) (xst_of (i := (.iload_n 1)) (len := 1) rfl rfl (x_ilo e1)) ?_
  by_cases hc : l1 < 0
  · replace H := H.1 hc
    refine y_next (xst_of (i := (.ifCond .lt 20)) (len := 3) rfl rfl (xt_if_lt (t := 21) rfl hc)) ?_
    exact H _ _ R e0 e1 ok_l0
  · replace H := H.2 hc
    refine y_next (pc' := 4) (xst_of (i := (.ifCond .lt 20)) (len := 3) rfl rfl (xf_if_lt (t := 21) rfl hc)) ?_
    refine y_next (pc' := 5) (xst_of (i := (.iload_n 1)) (len := 1) rfl rfl (x_ilo e1)) ?_
    refine y_next (pc' := 6) (xst_of (i := (.aload_n 0)) (len := 1) rfl rfl (x_aloadV (xisV_r _) e0)) ?_
    refine z_gI (t := l0) (k := 5) rfl rfl rfl R ok_l0 ?_
    by_cases hc : (fI Y l0 5) ≤ l1
    · replace H := H.1 hc
      refine y_next (xst_of (i := (.if_icmp .ge 12)) (len := 3) rfl rfl (xt_icmp_ge (t := 21) rfl hc)) ?_
      exact H _ _ R e0 e1 ok_l0
    · replace H := H.2 hc
      refine y_next (pc' := 12) (xst_of (i := (.if_icmp .ge 12)) (len := 3) rfl rfl (xf_icmp_ge (t := 21) rfl hc)) ?_
      refine y_next (pc' := 13) (xst_of (i := (.aload_n 0)) (len := 1) rfl rfl (x_aloadV (xisV_r _) e0)) ?_
      refine z_gA (t := l0) (k := 2) rfl rfl rfl R ok_l0 ?_
      refine y_next (pc' := 17) (xst_of (i := (.iload_n 1)) (len := 1) rfl rfl (x_ilo e1)) ?_
      refine z_aR (t := l0) (k := 2) (m := 1) (n := 200) (i := l1) rfl rfl (by decide) R ok_l0 H.1 rfl (fun o1 ho ok_o1 => ?_)
      replace H := H.2 o1 ho
      clear ho
      refine y_next (pc' := 22) (xst_of (i := (.goto 4)) (len := 3) rfl rfl rfl) ?_
      exact H _ _ R e0 e1 ok_l0 ok_o1
theorem l_44_21 {V : xV} {g : xG} {Y : xW} {l0 : xT} {l1 : Int32} {Q : Option xT → xW → Prop} (H : L_44_22 V g Y l0 l1 none Q) : L_44_21 V g Y l0 l1 Q := by
  intro h lv R e0 e1 ok_l0
  refine y_next (pc' := 22) (xst_of (i := .aconst_null) (len := 1) rfl rfl rfl) ?_
  exact H _ _ R e0 e1 ok_l0 ok_n
theorem l_44_22 {V : xV} {g : xG} {Y : xW} {l0 : xT} {l1 : Int32} {s0 : Option xT} {Q : Option xT → xW → Prop} (H : Q s0 Y) : L_44_22 V g Y l0 l1 s0 Q := by
  intro h lv R e0 e1 ok_l0 ok_s0
  exact y_ret (xst_of (i := .areturn) (len := 1) rfl rfl (x_aretV rfl (rv_V g s0))) ⟨s0, _, rfl, R, ok_s0, H⟩
theorem l_45_0 {V : xV} {g : xG} {Y : xW} {l0 : xT} {l1 : Int32} {Q : Option xT → xW → Prop} (H : ((l1 < 0) → L_45_21 V g Y l0 l1 Q) ∧ (¬ (l1 < 0) → (((fI Y l0 6) ≤ l1) → L_45_21 V g Y l0 l1 Q) ∧ (¬ ((fI Y l0 6) ≤ l1) → vp_in l1 8 ∧ ∀ o1, o1 = fR Y l0 3 (Int32.toNatClampNeg l1) → L_45_22 V g Y l0 l1 o1 Q))) : L_45_0 V g Y l0 l1 Q := by
  intro h lv R e0 e1 ok_l0
  refine y_next (pc' := 1) (xst_of (i := (.iload_n 1)) (len := 1) rfl rfl (x_ilo e1)) ?_
  by_cases hc : l1 < 0
  · replace H := H.1 hc
    refine y_next (xst_of (i := (.ifCond .lt 20)) (len := 3) rfl rfl (xt_if_lt (t := 21) rfl hc)) ?_
    exact H _ _ R e0 e1 ok_l0
  · replace H := H.2 hc
    refine y_next (pc' := 4) (xst_of (i := (.ifCond .lt 20)) (len := 3) rfl rfl (xf_if_lt (t := 21) rfl hc)) ?_
    refine y_next (pc' := 5) (xst_of (i := (.iload_n 1)) (len := 1) rfl rfl (x_ilo e1)) ?_
    refine y_next (pc' := 6) (xst_of (i := (.aload_n 0)) (len := 1) rfl rfl (x_aloadV (xisV_r _) e0)) ?_
    refine z_gI (t := l0) (k := 6) rfl rfl rfl R ok_l0 ?_
    by_cases hc : (fI Y l0 6) ≤ l1
    · replace H := H.1 hc
      refine y_next (xst_of (i := (.if_icmp .ge 12)) (len := 3) rfl rfl (xt_icmp_ge (t := 21) rfl hc)) ?_
      exact H _ _ R e0 e1 ok_l0
    · replace H := H.2 hc
      refine y_next (pc' := 12) (xst_of (i := (.if_icmp .ge 12)) (len := 3) rfl rfl (xf_icmp_ge (t := 21) rfl hc)) ?_
      refine y_next (pc' := 13) (xst_of (i := (.aload_n 0)) (len := 1) rfl rfl (x_aloadV (xisV_r _) e0)) ?_
      refine z_gA (t := l0) (k := 3) rfl rfl rfl R ok_l0 ?_
      refine y_next (pc' := 17) (xst_of (i := (.iload_n 1)) (len := 1) rfl rfl (x_ilo e1)) ?_
      refine z_aR (t := l0) (k := 3) (m := 0) (n := 8) (i := l1) rfl rfl (by decide) R ok_l0 H.1 rfl (fun o1 ho ok_o1 => ?_)
      replace H := H.2 o1 ho
      clear ho
      refine y_next (pc' := 22) (xst_of (i := (.goto 4)) (len := 3) rfl rfl rfl) ?_
      exact H _ _ R e0 e1 ok_l0 ok_o1
theorem l_45_21 {V : xV} {g : xG} {Y : xW} {l0 : xT} {l1 : Int32} {Q : Option xT → xW → Prop} (H : L_45_22 V g Y l0 l1 none Q) : L_45_21 V g Y l0 l1 Q := by
  intro h lv R e0 e1 ok_l0
  refine y_next (pc' := 22) (xst_of (i := .aconst_null) (len := 1) rfl rfl rfl) ?_
  exact H _ _ R e0 e1 ok_l0 ok_n
theorem l_45_22 {V : xV} {g : xG} {Y : xW} {l0 : xT} {l1 : Int32} {s0 : Option xT} {Q : Option xT → xW → Prop} (H : Q s0 Y) : L_45_22 V g Y l0 l1 s0 Q := by
  intro h lv R e0 e1 ok_l0 ok_s0
  exact y_ret (xst_of (i := .areturn) (len := 1) rfl rfl (x_aretV rfl (rv_V g s0))) ⟨s0, _, rfl, R, ok_s0, H⟩
theorem l_46_0 {V : xV} {g : xG} {Y : xW} {l0 : xT} {l1 : Int32} {Q : Option xT → xW → Prop} (H : ((l1 < 0) → L_46_21 V g Y l0 l1 Q) ∧ (¬ (l1 < 0) → (((fI Y l0 7) ≤ l1) → L_46_21 V g Y l0 l1 Q) ∧ (¬ ((fI Y l0 7) ≤ l1) → vp_in l1 8 ∧ ∀ o1, o1 = fR Y l0 4 (Int32.toNatClampNeg l1) → L_46_22 V g Y l0 l1 o1 Q))) : L_46_0 V g Y l0 l1 Q := by
  intro h lv R e0 e1 ok_l0
  refine y_next (pc' := 1) (xst_of (i := (.iload_n 1)) (len := 1) rfl rfl (x_ilo e1)) ?_
  by_cases hc : l1 < 0
  · replace H := H.1 hc
    refine y_next (xst_of (i := (.ifCond .lt 20)) (len := 3) rfl rfl (xt_if_lt (t := 21) rfl hc)) ?_
    exact H _ _ R e0 e1 ok_l0
  · replace H := H.2 hc
    refine y_next (pc' := 4) (xst_of (i := (.ifCond .lt 20)) (len := 3) rfl rfl (xf_if_lt (t := 21) rfl hc)) ?_
    refine y_next (pc' := 5) (xst_of (i := (.iload_n 1)) (len := 1) rfl rfl (x_ilo e1)) ?_
    refine y_next (pc' := 6) (xst_of (i := (.aload_n 0)) (len := 1) rfl rfl (x_aloadV (xisV_r _) e0)) ?_
    refine z_gI (t := l0) (k := 7) rfl rfl rfl R ok_l0 ?_
    by_cases hc : (fI Y l0 7) ≤ l1
    · replace H := H.1 hc
      refine y_next (xst_of (i := (.if_icmp .ge 12)) (len := 3) rfl rfl (xt_icmp_ge (t := 21) rfl hc)) ?_
      exact H _ _ R e0 e1 ok_l0
    · replace H := H.2 hc
      refine y_next (pc' := 12) (xst_of (i := (.if_icmp .ge 12)) (len := 3) rfl rfl (xf_icmp_ge (t := 21) rfl hc)) ?_
      refine y_next (pc' := 13) (xst_of (i := (.aload_n 0)) (len := 1) rfl rfl (x_aloadV (xisV_r _) e0)) ?_
      refine z_gA (t := l0) (k := 4) rfl rfl rfl R ok_l0 ?_
      refine y_next (pc' := 17) (xst_of (i := (.iload_n 1)) (len := 1) rfl rfl (x_ilo e1)) ?_
      refine z_aR (t := l0) (k := 4) (m := 2) (n := 8) (i := l1) rfl rfl (by decide) R ok_l0 H.1 rfl (fun o1 ho ok_o1 => ?_)
      replace H := H.2 o1 ho
      clear ho
      refine y_next (pc' := 22) (xst_of (i := (.goto 4)) (len := 3) rfl rfl rfl) ?_
      exact H _ _ R e0 e1 ok_l0 ok_o1
theorem l_46_21 {V : xV} {g : xG} {Y : xW} {l0 : xT} {l1 : Int32} {Q : Option xT → xW → Prop} (H : L_46_22 V g Y l0 l1 none Q) : L_46_21 V g Y l0 l1 Q := by
  intro h lv R e0 e1 ok_l0
  refine y_next (pc' := 22) (xst_of (i := .aconst_null) (len := 1) rfl rfl rfl) ?_
  exact H _ _ R e0 e1 ok_l0 ok_n
theorem l_46_22 {V : xV} {g : xG} {Y : xW} {l0 : xT} {l1 : Int32} {s0 : Option xT} {Q : Option xT → xW → Prop} (H : Q s0 Y) : L_46_22 V g Y l0 l1 s0 Q := by
  intro h lv R e0 e1 ok_l0 ok_s0
  exact y_ret (xst_of (i := .areturn) (len := 1) rfl rfl (x_aretV rfl (rv_V g s0))) ⟨s0, _, rfl, R, ok_s0, H⟩
theorem l_47_0 {V : xV} {g : xG} {Y : xW} {l0 : xT} {l1 : Int32} {Q : Option xT → xW → Prop} (H : L_45_0 V g Y l0 l1 (fun o2 Y1 => (o2 = none → L_47_22 V g Y1 l0 l1 none none Q) ∧ (∀ u3, o2 = some u3 → L_44_0 V g Y1 l0 (fI Y1 u3 0) (fun o5 Y4 => L_47_22 V g Y4 l0 l1 (some u3) o5 Q)))) : L_47_0 V g Y l0 l1 Q := by
  intro h lv R e0 e1 ok_l0
  refine y_next (pc' := 1) (xst_of (i := (.aload_n 0)) (len := 1) rfl rfl (x_aloadV (xisV_r _) e0)) ?_
  refine y_next (pc' := 2) (xst_of (i := (.iload_n 1)) (len := 1) rfl rfl (x_ilo e1)) ?_
  refine z_cR (c := 0) (k := 45) (i := (.invokevirtual 55)) (as := [.ref (g.2 l0 0), .int l1]) (rest := []) rfl rfl (x_callv rfl rfl (rc_ob R ok_l0 rfl) rfl rfl) (H _ _ R rfl rfl ok_l0) (fun o2 h Y1 R ok_o2 H => ?_)
  refine z_as (i := (.astore_n 2)) (len := 1) (pc' := 6) (q := 2) rfl rfl rfl (by decide) (rv_V g o2) (fun lv1 hlv => ?_)
  have e0 := xs1_A hlv e0 rfl rfl
  have e1 := xs1_B hlv e1 rfl rfl
  have e2 := xs1_N hlv
  clear hlv
  refine y_next (pc' := 7) (xst_of (i := (.aload_n 2)) (len := 1) rfl rfl (x_aloadV (rv_V g o2) e2)) ?_
  rcases o2 with _ | u3
  · replace H := H.1 rfl
    refine y_next (pc' := 10) (xst_of (i := (.ifnonnull 7)) (len := 3) rfl rfl rfl) ?_
    refine y_next (pc' := 11) (xst_of (i := .aconst_null) (len := 1) rfl rfl rfl) ?_
    refine y_next (pc' := 22) (xst_of (i := (.goto 11)) (len := 3) rfl rfl rfl) ?_
    exact H _ _ R e0 e1 e2 ok_l0 ok_n ok_n
  · replace H := H.2 u3 rfl
    have ok_u3 := ok_o2 u3 rfl
    refine y_next (pc' := 14) (xst_of (i := (.ifnonnull 7)) (len := 3) rfl rfl rfl) ?_
    refine y_next (pc' := 15) (xst_of (i := (.aload_n 0)) (len := 1) rfl rfl (x_aloadV (xisV_r _) e0)) ?_
    refine y_next (pc' := 16) (xst_of (i := (.aload_n 2)) (len := 1) rfl rfl (x_aloadV (xisV_r _) e2)) ?_
    refine z_gI (t := u3) (k := 0) rfl rfl rfl R ok_u3 ?_
    refine z_cR (c := 2) (k := 44) (i := (.invokevirtual 62)) (as := [.ref (g.2 l0 0), .int (fI Y1 u3 0)]) (rest := []) rfl rfl (x_callv rfl rfl (rc_ob R ok_l0 rfl) rfl rfl) (H _ _ R rfl rfl ok_l0) (fun o5 h Y4 R ok_o5 H => ?_)
    exact H _ _ R e0 e1 e2 ok_l0 (ok_s ok_u3) ok_o5
theorem l_47_22 {V : xV} {g : xG} {Y : xW} {l0 : xT} {l1 : Int32} {l2 : Option xT} {s0 : Option xT} {Q : Option xT → xW → Prop} (H : (s0 = none → L_47_39 V g Y l0 l1 l2 none Q) ∧ (∀ u1, s0 = some u1 → (((fI Y u1 1) = l1) → L_47_40 V g Y l0 l1 l2 (some u1) (some u1) Q) ∧ (¬ ((fI Y u1 1) = l1) → L_47_39 V g Y l0 l1 l2 (some u1) Q))) : L_47_22 V g Y l0 l1 l2 s0 Q := by
  intro h lv R e0 e1 e2 ok_l0 ok_l2 ok_s0
  refine z_as (i := (.astore_n 3)) (len := 1) (pc' := 23) (q := 3) rfl rfl rfl (by decide) (rv_V g s0) (fun lv1 hlv => ?_)
  have e0 := xs1_A hlv e0 rfl rfl
  have e1 := xs1_A hlv e1 rfl rfl
  have e2 := xs1_B hlv e2 rfl (rv_c g l2)
  have e3 := xs1_N hlv
  clear hlv
  refine y_next (pc' := 24) (xst_of (i := (.aload_n 3)) (len := 1) rfl rfl (x_aloadV (rv_V g s0) e3)) ?_
  rcases s0 with _ | u1
  · replace H := H.1 rfl
    refine y_next (pc' := 39) (xst_of (i := (.ifnull 15)) (len := 3) rfl rfl rfl) ?_
    exact H _ _ R e0 e1 e2 e3 ok_l0 ok_l2 ok_n
  · replace H := H.2 u1 rfl
    have ok_u1 := ok_s0 u1 rfl
    refine y_next (pc' := 27) (xst_of (i := (.ifnull 15)) (len := 3) rfl rfl rfl) ?_
    refine y_next (pc' := 28) (xst_of (i := (.aload_n 3)) (len := 1) rfl rfl (x_aloadV (xisV_r _) e3)) ?_
    refine z_gI (t := u1) (k := 1) rfl rfl rfl R ok_u1 ?_
    refine y_next (pc' := 32) (xst_of (i := (.iload_n 1)) (len := 1) rfl rfl (x_ilo e1)) ?_
    by_cases hc : (fI Y u1 1) = l1
    · replace H := H.1 hc
      refine y_next (pc' := 35) (xst_of (i := (.if_icmp .ne 7)) (len := 3) rfl rfl (xf_icmp_ne (t := 39) rfl (fun z => z hc))) ?_
      refine y_next (pc' := 36) (xst_of (i := (.aload_n 3)) (len := 1) rfl rfl (x_aloadV (xisV_r _) e3)) ?_
      refine y_next (pc' := 40) (xst_of (i := (.goto 4)) (len := 3) rfl rfl rfl) ?_
      exact H _ _ R e0 e1 e2 e3 ok_l0 ok_l2 (ok_s ok_u1) (ok_s ok_u1)
    · replace H := H.2 hc
      refine y_next (xst_of (i := (.if_icmp .ne 7)) (len := 3) rfl rfl (xt_icmp_ne (t := 39) rfl hc)) ?_
      exact H _ _ R e0 e1 e2 e3 ok_l0 ok_l2 (ok_s ok_u1)
theorem l_47_39 {V : xV} {g : xG} {Y : xW} {l0 : xT} {l1 : Int32} {l2 : Option xT} {l3 : Option xT} {Q : Option xT → xW → Prop} (H : L_47_40 V g Y l0 l1 l2 l3 none Q) : L_47_39 V g Y l0 l1 l2 l3 Q := by
  intro h lv R e0 e1 e2 e3 ok_l0 ok_l2 ok_l3
  refine y_next (pc' := 40) (xst_of (i := .aconst_null) (len := 1) rfl rfl rfl) ?_
  exact H _ _ R e0 e1 e2 e3 ok_l0 ok_l2 ok_l3 ok_n
theorem l_47_40 {V : xV} {g : xG} {Y : xW} {l0 : xT} {l1 : Int32} {l2 : Option xT} {l3 : Option xT} {s0 : Option xT} {Q : Option xT → xW → Prop} (H : Q s0 Y) : L_47_40 V g Y l0 l1 l2 l3 s0 Q := by
  intro h lv R e0 e1 e2 e3 ok_l0 ok_l2 ok_l3 ok_s0
  exact y_ret (xst_of (i := .areturn) (len := 1) rfl rfl (x_aretV rfl (rv_V g s0))) ⟨s0, _, rfl, R, ok_s0, H⟩
theorem l_48_0 {V : xV} {g : xG} {Y : xW} {l0 : xT} {l1 : Int32} {Q : Int32 → xW → Prop} (H : (((fI Y l0 5) < 200) → vp_in (fI Y l0 5) 200 ∧ ∀ Y1, Y1 = uA Y l0 1 (Int32.toNatClampNeg (fI Y l0 5)) l1 → ∀ Y2, Y2 = uI Y1 l0 5 ((fI Y1 l0 5) + 1) → Q ((fI Y2 l0 5) - 1) Y2) ∧ (¬ ((fI Y l0 5) < 200) → Q (-1) Y)) : L_48_0 V g Y l0 l1 Q := by
  intro h lv R e0 e1 ok_l0
  refine y_next (pc' := 1) (xst_of (i := (.aload_n 0)) (len := 1) rfl rfl (x_aloadV (xisV_r _) e0)) ?_
  refine z_gI (t := l0) (k := 5) rfl rfl rfl R ok_l0 ?_
  refine y_next (pc' := 7) (xst_of (i := (.sipush 200)) (len := 3) rfl rfl (x_sip (v := 200) (by decide))) ?_
  by_cases hc : (fI Y l0 5) < 200
  · replace H := H.1 hc
    refine y_next (xst_of (i := (.if_icmp .lt 5)) (len := 3) rfl rfl (xt_icmp_lt (t := 12) rfl hc)) ?_
    refine y_next (pc' := 13) (xst_of (i := (.aload_n 0)) (len := 1) rfl rfl (x_aloadV (xisV_r _) e0)) ?_
    refine z_gA (t := l0) (k := 1) rfl rfl rfl R ok_l0 ?_
    refine y_next (pc' := 17) (xst_of (i := (.aload_n 0)) (len := 1) rfl rfl (x_aloadV (xisV_r _) e0)) ?_
    refine z_gI (t := l0) (k := 5) rfl rfl rfl R ok_l0 ?_
    refine y_next (pc' := 21) (xst_of (i := (.iload_n 1)) (len := 1) rfl rfl (x_ilo e1)) ?_
    refine z_sI (t := l0) (k := 1) (n := 200) (i := (fI Y l0 5)) rfl rfl R ok_l0 H.1 (fun h Y1 hY R => ?_)
    replace H := H.2 Y1 hY
    clear hY
    refine y_next (pc' := 23) (xst_of (i := (.aload_n 0)) (len := 1) rfl rfl (x_aloadV (xisV_r _) e0)) ?_
    refine y_next (pc' := 24) (xst_of (i := .dup) (len := 1) rfl rfl (x_dup rfl)) ?_
    refine z_gI (t := l0) (k := 5) rfl rfl rfl R ok_l0 ?_
    refine y_next (pc' := 28) (xst_of (i := (.iconst 1)) (len := 1) rfl rfl (x_ico (v := 1) (by decide))) ?_
    refine y_next (pc' := 29) (xst_of (i := .iadd) (len := 1) rfl rfl rfl) ?_
    refine z_pI (t := l0) (k := 5) rfl rfl rfl rfl rfl R ok_l0 (fun h Y2 hY R => ?_)
    replace H := H Y2 hY
    clear hY
    refine y_next (pc' := 33) (xst_of (i := (.aload_n 0)) (len := 1) rfl rfl (x_aloadV (xisV_r _) e0)) ?_
    refine z_gI (t := l0) (k := 5) rfl rfl rfl R ok_l0 ?_
    refine y_next (pc' := 37) (xst_of (i := (.iconst 1)) (len := 1) rfl rfl (x_ico (v := 1) (by decide))) ?_
    refine y_next (pc' := 38) (xst_of (i := .isub) (len := 1) rfl rfl rfl) ?_
    exact y_ret (xst_of (i := .ireturn) (len := 1) rfl rfl rfl) ⟨_, _, rfl, R, H⟩
  · replace H := H.2 hc
    refine y_next (pc' := 10) (xst_of (i := (.if_icmp .lt 5)) (len := 3) rfl rfl (xf_icmp_lt (t := 12) rfl hc)) ?_
    refine y_next (pc' := 11) (xst_of (i := (.iconst (-1))) (len := 1) rfl rfl (x_ico (v := (-1)) (by decide))) ?_
    exact y_ret (xst_of (i := .ireturn) (len := 1) rfl rfl rfl) ⟨_, _, rfl, R, H⟩
theorem l_52_0 {V : xV} {g : xG} {Y : xW} {l0 : xT} {l1 : Int32} {Q : xW → Prop} (H : ∀ Y1, Y1 = uI Y l0 9 l1 → ((l1 = 0) → L_52_15 V g Y1 l0 l1 l0 1 Q) ∧ (¬ (l1 = 0) → L_52_15 V g Y1 l0 l1 l0 2 Q)) : L_52_0 V g Y l0 l1 Q := by
  intro h lv R e0 e1 ok_l0
  refine y_next (pc' := 1) (xst_of (i := (.aload_n 0)) (len := 1) rfl rfl (x_aloadV (xisV_r _) e0)) ?_
  refine y_next (pc' := 2) (xst_of (i := (.iload_n 1)) (len := 1) rfl rfl (x_ilo e1)) ?_
  refine z_pI (t := l0) (k := 9) rfl rfl rfl rfl rfl R ok_l0 (fun h Y1 hY R => ?_)
  replace H := H Y1 hY
  clear hY
  refine y_next (pc' := 6) (xst_of (i := (.aload_n 0)) (len := 1) rfl rfl (x_aloadV (xisV_r _) e0)) ?_
  refine y_next (pc' := 7) (xst_of (i := (.iload_n 1)) (len := 1) rfl rfl (x_ilo e1)) ?_
  by_cases hc : l1 = 0
  · replace H := H.1 hc
    refine y_next (pc' := 10) (xst_of (i := (.ifCond .ne 7)) (len := 3) rfl rfl (xf_if_ne (t := 14) rfl (fun z => z hc))) ?_
    refine y_next (pc' := 11) (xst_of (i := (.iconst 1)) (len := 1) rfl rfl (x_ico (v := 1) (by decide))) ?_
    refine y_next (pc' := 15) (xst_of (i := (.goto 4)) (len := 3) rfl rfl rfl) ?_
    exact H _ _ R e0 e1 ok_l0 ok_l0
  · replace H := H.2 hc
    refine y_next (xst_of (i := (.ifCond .ne 7)) (len := 3) rfl rfl (xt_if_ne (t := 14) rfl hc)) ?_
    refine y_next (pc' := 15) (xst_of (i := (.iconst 2)) (len := 1) rfl rfl (x_ico (v := 2) (by decide))) ?_
    exact H _ _ R e0 e1 ok_l0 ok_l0
theorem l_52_15 {V : xV} {g : xG} {Y : xW} {l0 : xT} {l1 : Int32} {s0 : xT} {s1 : Int32} {Q : xW → Prop} (H : ∀ Y1, Y1 = uI Y s0 8 s1 → (((fI Y1 l0 8) = 1) → L_54_0 V g Y1 l0 (fun Y2 => L_52_30 V g Y2 l0 l1 Q)) ∧ (¬ ((fI Y1 l0 8) = 1) → L_52_30 V g Y1 l0 l1 Q)) : L_52_15 V g Y l0 l1 s0 s1 Q := by
  intro h lv R e0 e1 ok_l0 ok_s0
  refine z_pI (t := s0) (k := 8) rfl rfl rfl rfl rfl R ok_s0 (fun h Y1 hY R => ?_)
  replace H := H Y1 hY
  clear hY
  refine y_next (pc' := 19) (xst_of (i := (.aload_n 0)) (len := 1) rfl rfl (x_aloadV (xisV_r _) e0)) ?_
  refine z_gI (t := l0) (k := 8) rfl rfl rfl R ok_l0 ?_
  refine y_next (pc' := 23) (xst_of (i := (.iconst 1)) (len := 1) rfl rfl (x_ico (v := 1) (by decide))) ?_
  by_cases hc : (fI Y1 l0 8) = 1
  · replace H := H.1 hc
    refine y_next (pc' := 26) (xst_of (i := (.if_icmp .ne 7)) (len := 3) rfl rfl (xf_icmp_ne (t := 30) rfl (fun z => z hc))) ?_
    refine y_next (pc' := 27) (xst_of (i := (.aload_n 0)) (len := 1) rfl rfl (x_aloadV (xisV_r _) e0)) ?_
    refine z_cN (k := 54) (i := (.invokevirtual 86)) (as := [.ref (g.2 l0 0)]) (rest := []) rfl rfl (x_callv rfl rfl (rc_ob R ok_l0 rfl) rfl rfl) (H _ _ R rfl ok_l0) (fun h Y2 R H => ?_)
    exact H _ _ R e0 e1 ok_l0
  · replace H := H.2 hc
    refine y_next (xst_of (i := (.if_icmp .ne 7)) (len := 3) rfl rfl (xt_icmp_ne (t := 30) rfl hc)) ?_
    exact H _ _ R e0 e1 ok_l0
theorem l_52_30 {V : xV} {g : xG} {Y : xW} {l0 : xT} {l1 : Int32} {Q : xW → Prop} (H : Q Y) : L_52_30 V g Y l0 l1 Q := by
  intro h lv R e0 e1 ok_l0
  exact y_ret (xst_of (i := .return_) (len := 1) rfl rfl rfl) ⟨_, rfl, R, H⟩
theorem l_53_0 {V : xV} {g : xG} {Y : xW} {l0 : xT} {Q : Int32 → xW → Prop} (H : L_45_0 V g Y l0 0 (fun o2 Y1 => (o2 = none → L_53_18 V g Y1 l0 none 0 Q) ∧ (∀ u3, o2 = some u3 → L_53_18 V g Y1 l0 (some u3) (fI Y1 u3 2) Q))) : L_53_0 V g Y l0 Q := by
  intro h lv R e0 ok_l0
  refine y_next (pc' := 1) (xst_of (i := (.aload_n 0)) (len := 1) rfl rfl (x_aloadV (xisV_r _) e0)) ?_
  refine y_next (pc' := 2) (xst_of (i := (.iconst 0)) (len := 1) rfl rfl (x_ico (v := 0) (by decide))) ?_
  refine z_cR (c := 0) (k := 45) (i := (.invokevirtual 55)) (as := [.ref (g.2 l0 0), .int 0]) (rest := []) rfl rfl (x_callv rfl rfl (rc_ob R ok_l0 rfl) rfl rfl) (H _ _ R rfl rfl ok_l0) (fun o2 h Y1 R ok_o2 H => ?_)
  refine z_as (i := (.astore_n 1)) (len := 1) (pc' := 6) (q := 1) rfl rfl rfl (by decide) (rv_V g o2) (fun lv1 hlv => ?_)
  have e0 := xs1_B hlv e0 rfl rfl
  have e1 := xs1_N hlv
  clear hlv
  refine y_next (pc' := 7) (xst_of (i := (.aload_n 1)) (len := 1) rfl rfl (x_aloadV (rv_V g o2) e1)) ?_
  rcases o2 with _ | u3
  · replace H := H.1 rfl
    refine y_next (pc' := 10) (xst_of (i := (.ifnonnull 7)) (len := 3) rfl rfl rfl) ?_
    refine y_next (pc' := 11) (xst_of (i := (.iconst 0)) (len := 1) rfl rfl (x_ico (v := 0) (by decide))) ?_
    refine y_next (pc' := 18) (xst_of (i := (.goto 7)) (len := 3) rfl rfl rfl) ?_
    exact H _ _ R e0 e1 ok_l0 ok_n
  · replace H := H.2 u3 rfl
    have ok_u3 := ok_o2 u3 rfl
    refine y_next (pc' := 14) (xst_of (i := (.ifnonnull 7)) (len := 3) rfl rfl rfl) ?_
    refine y_next (pc' := 15) (xst_of (i := (.aload_n 1)) (len := 1) rfl rfl (x_aloadV (xisV_r _) e1)) ?_
    refine z_gI (t := u3) (k := 2) rfl rfl rfl R ok_u3 ?_
    exact H _ _ R e0 e1 ok_l0 (ok_s ok_u3)
theorem l_53_18 {V : xV} {g : xG} {Y : xW} {l0 : xT} {l1 : Option xT} {s0 : Int32} {Q : Int32 → xW → Prop} (H : Q s0 Y) : L_53_18 V g Y l0 l1 s0 Q := by
  intro h lv R e0 e1 ok_l0 ok_l1
  exact y_ret (xst_of (i := .ireturn) (len := 1) rfl rfl rfl) ⟨_, _, rfl, R, H⟩
theorem l_54_0 {V : xV} {g : xG} {Y : xW} {l0 : xT} {Q : xW → Prop} (H : L_54_7 V g Y l0 ((fI Y l0 6) - 1) Q) : L_54_0 V g Y l0 Q := by
  intro h lv R e0 ok_l0
  refine y_next (pc' := 1) (xst_of (i := (.aload_n 0)) (len := 1) rfl rfl (x_aloadV (xisV_r _) e0)) ?_
  refine z_gI (t := l0) (k := 6) rfl rfl rfl R ok_l0 ?_
  refine y_next (pc' := 5) (xst_of (i := (.iconst 1)) (len := 1) rfl rfl (x_ico (v := 1) (by decide))) ?_
  refine y_next (pc' := 6) (xst_of (i := .isub) (len := 1) rfl rfl rfl) ?_
  refine z_is (i := (.istore_n 1)) (len := 1) (pc' := 7) (q := 1) rfl rfl rfl (by decide) (fun lv1 hlv => ?_)
  have e0 := xs1_B hlv e0 rfl rfl
  have e1 := xs1_N hlv
  clear hlv
  exact H _ _ R e0 e1 ok_l0
theorem l_54_7 {V : xV} {g : xG} {Y : xW} {l0 : xT} {l1 : Int32} {Q : xW → Prop} (H : ((l1 < 0) → Q Y) ∧ (¬ (l1 < 0) → L_45_0 V g Y l0 l1 (fun o2 Y1 => (o2 = none → L_54_30 V g Y1 l0 l1 none Q) ∧ (∀ u3, o2 = some u3 → L_55_0 V g Y1 l0 l1 (fun x5 Y4 => ∀ Y6, Y6 = uI Y4 u3 2 x5 → L_54_30 V g Y6 l0 l1 (some u3) Q))))) : L_54_7 V g Y l0 l1 Q := by
  intro h lv R e0 e1 ok_l0
  refine y_next (pc' := 8) (xst_of (i := (.iload_n 1)) (len := 1) rfl rfl (x_ilo e1)) ?_
  by_cases hc : l1 < 0
  · replace H := H.1 hc
    refine y_next (xst_of (i := (.ifCond .lt 28)) (len := 3) rfl rfl (xt_if_lt (t := 36) rfl hc)) ?_
    exact y_ret (xst_of (i := .return_) (len := 1) rfl rfl rfl) ⟨_, rfl, R, H⟩
  · replace H := H.2 hc
    refine y_next (pc' := 11) (xst_of (i := (.ifCond .lt 28)) (len := 3) rfl rfl (xf_if_lt (t := 36) rfl hc)) ?_
    refine y_next (pc' := 12) (xst_of (i := (.aload_n 0)) (len := 1) rfl rfl (x_aloadV (xisV_r _) e0)) ?_
    refine y_next (pc' := 13) (xst_of (i := (.iload_n 1)) (len := 1) rfl rfl (x_ilo e1)) ?_
    refine z_cR (c := 0) (k := 45) (i := (.invokevirtual 55)) (as := [.ref (g.2 l0 0), .int l1]) (rest := []) rfl rfl (x_callv rfl rfl (rc_ob R ok_l0 rfl) rfl rfl) (H _ _ R rfl rfl ok_l0) (fun o2 h Y1 R ok_o2 H => ?_)
    refine z_as (i := (.astore_n 2)) (len := 1) (pc' := 17) (q := 2) rfl rfl rfl (by decide) (rv_V g o2) (fun lv1 hlv => ?_)
    have e0 := xs1_A hlv e0 rfl rfl
    have e1 := xs1_B hlv e1 rfl rfl
    have e2 := xs1_N hlv
    clear hlv
    refine y_next (pc' := 18) (xst_of (i := (.aload_n 2)) (len := 1) rfl rfl (x_aloadV (rv_V g o2) e2)) ?_
    rcases o2 with _ | u3
    · replace H := H.1 rfl
      refine y_next (pc' := 30) (xst_of (i := (.ifnull 12)) (len := 3) rfl rfl rfl) ?_
      exact H _ _ R e0 e1 e2 ok_l0 ok_n
    · replace H := H.2 u3 rfl
      have ok_u3 := ok_o2 u3 rfl
      refine y_next (pc' := 21) (xst_of (i := (.ifnull 12)) (len := 3) rfl rfl rfl) ?_
      refine y_next (pc' := 22) (xst_of (i := (.aload_n 2)) (len := 1) rfl rfl (x_aloadV (xisV_r _) e2)) ?_
      refine y_next (pc' := 23) (xst_of (i := (.aload_n 0)) (len := 1) rfl rfl (x_aloadV (xisV_r _) e0)) ?_
      refine y_next (pc' := 24) (xst_of (i := (.iload_n 1)) (len := 1) rfl rfl (x_ilo e1)) ?_
      refine z_cI (k := 55) (i := (.invokevirtual 92)) (as := [.ref (g.2 l0 0), .int l1]) (rest := [.ref (g.2 u3 0)]) rfl rfl (x_callv rfl rfl (rc_ob R ok_l0 rfl) rfl rfl) (H _ _ R rfl rfl ok_l0) (fun x5 h Y4 R H => ?_)
      refine z_pI (t := u3) (k := 2) rfl rfl rfl rfl rfl R ok_u3 (fun h Y6 hY R => ?_)
      replace H := H Y6 hY
      clear hY
      exact H _ _ R e0 e1 e2 ok_l0 (ok_s ok_u3)
theorem l_54_30 {V : xV} {g : xG} {Y : xW} {l0 : xT} {l1 : Int32} {l2 : Option xT} {Q : xW → Prop} (H : L_54_7 V g Y l0 (l1 + (-1)) Q) : L_54_30 V g Y l0 l1 l2 Q := by
  intro h lv R e0 e1 e2 ok_l0 ok_l2
  refine z_in (q := 1) (n := (-1)) (v := (-1)) rfl e1 (by decide) (by decide) (fun lv1 hlv => ?_)
  have e0 := xs1_B hlv e0 rfl rfl
  have e2 := xs1_A hlv e2 rfl rfl
  have e1 := xs1_N hlv
  clear hlv
  refine y_next (pc' := 7) (xst_of (i := (.goto (-26))) (len := 3) rfl rfl rfl) ?_
  exact H _ _ R e0 e1 ok_l0
theorem l_55_0 {V : xV} {g : xG} {Y : xW} {l0 : xT} {l1 : Int32} {Q : Int32 → xW → Prop} (H : L_55_7 V g Y l0 l1 0 0 0 Q) : L_55_0 V g Y l0 l1 Q := by
  intro h lv R e0 e1 ok_l0
  refine y_next (pc' := 1) (xst_of (i := (.iconst 0)) (len := 1) rfl rfl (x_ico (v := 0) (by decide))) ?_
  refine z_is (i := (.istore_n 2)) (len := 1) (pc' := 2) (q := 2) rfl rfl rfl (by decide) (fun lv1 hlv => ?_)
  have e0 := xs1_A hlv e0 rfl rfl
  have e1 := xs1_B hlv e1 rfl rfl
  have e2 := xs1_N hlv
  clear hlv
  refine y_next (pc' := 3) (xst_of (i := (.iconst 0)) (len := 1) rfl rfl (x_ico (v := 0) (by decide))) ?_
  refine z_is (i := (.istore_n 3)) (len := 1) (pc' := 4) (q := 3) rfl rfl rfl (by decide) (fun lv2 hlv => ?_)
  have e0 := xs1_A hlv e0 rfl rfl
  have e1 := xs1_A hlv e1 rfl rfl
  have e2 := xs1_B hlv e2 rfl rfl
  have e3 := xs1_N hlv
  clear hlv
  refine y_next (pc' := 5) (xst_of (i := (.iconst 0)) (len := 1) rfl rfl (x_ico (v := 0) (by decide))) ?_
  refine z_is (i := (.istore 4)) (len := 2) (pc' := 7) (q := 4) rfl rfl rfl (by decide) (fun lv3 hlv => ?_)
  have e0 := xs1_A hlv e0 rfl rfl
  have e1 := xs1_A hlv e1 rfl rfl
  have e2 := xs1_A hlv e2 rfl rfl
  have e3 := xs1_B hlv e3 rfl rfl
  have e4 := xs1_N hlv
  clear hlv
  exact H _ _ R e0 e1 e2 e3 e4 ok_l0
theorem l_55_7 {V : xV} {g : xG} {Y : xW} {l0 : xT} {l1 : Int32} {l2 : Int32} {l3 : Int32} {l4 : Int32} {Q : Int32 → xW → Prop} (H : (((fI Y l0 5) ≤ l4) → Q l2 Y) ∧ (¬ ((fI Y l0 5) ≤ l4) → L_44_0 V g Y l0 l4 (fun o2 Y1 => (o2 = none → L_55_35 V g Y1 l0 l1 l2 l3 l4 none Q) ∧ (∀ u3, o2 = some u3 → L_55_35 V g Y1 l0 l1 l2 (fI Y1 u3 1) l4 (some u3) Q)))) : L_55_7 V g Y l0 l1 l2 l3 l4 Q := by
  intro h lv R e0 e1 e2 e3 e4 ok_l0
  refine y_next (pc' := 9) (xst_of (i := (.iload 4)) (len := 2) rfl rfl (x_ilo e4)) ?_
  refine y_next (pc' := 10) (xst_of (i := (.aload_n 0)) (len := 1) rfl rfl (x_aloadV (xisV_r _) e0)) ?_
  refine z_gI (t := l0) (k := 5) rfl rfl rfl R ok_l0 ?_
  by_cases hc : (fI Y l0 5) ≤ l4
  · replace H := H.1 hc
    refine y_next (xst_of (i := (.if_icmp .ge 67)) (len := 3) rfl rfl (xt_icmp_ge (t := 80) rfl hc)) ?_
    refine y_next (pc' := 81) (xst_of (i := (.iload_n 2)) (len := 1) rfl rfl (x_ilo e2)) ?_
    exact y_ret (xst_of (i := .ireturn) (len := 1) rfl rfl rfl) ⟨_, _, rfl, R, H⟩
  · replace H := H.2 hc
    refine y_next (pc' := 16) (xst_of (i := (.if_icmp .ge 67)) (len := 3) rfl rfl (xf_icmp_ge (t := 80) rfl hc)) ?_
    refine y_next (pc' := 17) (xst_of (i := (.aload_n 0)) (len := 1) rfl rfl (x_aloadV (xisV_r _) e0)) ?_
    refine y_next (pc' := 19) (xst_of (i := (.iload 4)) (len := 2) rfl rfl (x_ilo e4)) ?_
    refine z_cR (c := 2) (k := 44) (i := (.invokevirtual 62)) (as := [.ref (g.2 l0 0), .int l4]) (rest := []) rfl rfl (x_callv rfl rfl (rc_ob R ok_l0 rfl) rfl rfl) (H _ _ R rfl rfl ok_l0) (fun o2 h Y1 R ok_o2 H => ?_)
    refine z_as (i := (.astore 5)) (len := 2) (pc' := 24) (q := 5) rfl rfl rfl (by decide) (rv_V g o2) (fun lv1 hlv => ?_)
    have e0 := xs1_A hlv e0 rfl rfl
    have e1 := xs1_A hlv e1 rfl rfl
    have e2 := xs1_A hlv e2 rfl rfl
    have e3 := xs1_A hlv e3 rfl rfl
    have e4 := xs1_B hlv e4 rfl rfl
    have e5 := xs1_N hlv
    clear hlv
    refine y_next (pc' := 26) (xst_of (i := (.aload 5)) (len := 2) rfl rfl (x_aloadV (rv_V g o2) e5)) ?_
    rcases o2 with _ | u3
    · replace H := H.1 rfl
      refine y_next (pc' := 35) (xst_of (i := (.ifnull 9)) (len := 3) rfl rfl rfl) ?_
      exact H _ _ R e0 e1 e2 e3 e4 e5 ok_l0 ok_n
    · replace H := H.2 u3 rfl
      have ok_u3 := ok_o2 u3 rfl
      refine y_next (pc' := 29) (xst_of (i := (.ifnull 9)) (len := 3) rfl rfl rfl) ?_
      refine y_next (pc' := 31) (xst_of (i := (.aload 5)) (len := 2) rfl rfl (x_aloadV (xisV_r _) e5)) ?_
      refine z_gI (t := u3) (k := 1) rfl rfl rfl R ok_u3 ?_
      refine z_is (i := (.istore_n 3)) (len := 1) (pc' := 35) (q := 3) rfl rfl rfl (by decide) (fun lv2 hlv => ?_)
      have e0 := xs1_A hlv e0 rfl rfl
      have e1 := xs1_A hlv e1 rfl rfl
      have e2 := xs1_B hlv e2 rfl rfl
      have e4 := xs1_A hlv e4 rfl rfl
      have e5 := xs1_A hlv e5 rfl rfl
      have e3 := xs1_N hlv
      clear hlv
      exact H _ _ R e0 e1 e2 e3 e4 e5 ok_l0 (ok_s ok_u3)
theorem l_55_35 {V : xV} {g : xG} {Y : xW} {l0 : xT} {l1 : Int32} {l2 : Int32} {l3 : Int32} {l4 : Int32} {l5 : Option xT} {Q : Int32 → xW → Prop} (H : ((l3 = l1) → vp_in l4 200 ∧ L_56_0 V g Y l0 (fA Y l0 1 (Int32.toNatClampNeg l4)) (fun o2 Y1 => L_55_55 V g Y1 l0 l1 l2 l3 l4 l5 o2 Q)) ∧ (¬ (l3 = l1) → L_55_55 V g Y l0 l1 l2 l3 l4 l5 none Q)) : L_55_35 V g Y l0 l1 l2 l3 l4 l5 Q := by
  intro h lv R e0 e1 e2 e3 e4 e5 ok_l0 ok_l5
  refine y_next (pc' := 36) (xst_of (i := (.iload_n 3)) (len := 1) rfl rfl (x_ilo e3)) ?_
  refine y_next (pc' := 37) (xst_of (i := (.iload_n 1)) (len := 1) rfl rfl (x_ilo e1)) ?_
  by_cases hc : l3 = l1
  · replace H := H.1 hc
    refine y_next (pc' := 40) (xst_of (i := (.if_icmp .ne 17)) (len := 3) rfl rfl (xf_icmp_ne (t := 54) rfl (fun z => z hc))) ?_
    refine y_next (pc' := 41) (xst_of (i := (.aload_n 0)) (len := 1) rfl rfl (x_aloadV (xisV_r _) e0)) ?_
    refine y_next (pc' := 42) (xst_of (i := (.aload_n 0)) (len := 1) rfl rfl (x_aloadV (xisV_r _) e0)) ?_
    refine z_gA (t := l0) (k := 1) rfl rfl rfl R ok_l0 ?_
    refine y_next (pc' := 47) (xst_of (i := (.iload 4)) (len := 2) rfl rfl (x_ilo e4)) ?_
    refine z_aI (t := l0) (k := 1) (n := 200) (i := l4) rfl rfl R ok_l0 H.1 ?_
    replace H := H.2
    refine z_cR (c := 0) (k := 56) (i := (.invokevirtual 96)) (as := [.ref (g.2 l0 0), .int (fA Y l0 1 (Int32.toNatClampNeg l4))]) (rest := []) rfl rfl (x_callv rfl rfl (rc_ob R ok_l0 rfl) rfl rfl) (H _ _ R rfl rfl ok_l0) (fun o2 h Y1 R ok_o2 H => ?_)
    refine y_next (pc' := 55) (xst_of (i := (.goto 4)) (len := 3) rfl rfl rfl) ?_
    exact H _ _ R e0 e1 e2 e3 e4 e5 ok_l0 ok_l5 ok_o2
  · replace H := H.2 hc
    refine y_next (xst_of (i := (.if_icmp .ne 17)) (len := 3) rfl rfl (xt_icmp_ne (t := 54) rfl hc)) ?_
    refine y_next (pc' := 55) (xst_of (i := .aconst_null) (len := 1) rfl rfl rfl) ?_
    exact H _ _ R e0 e1 e2 e3 e4 e5 ok_l0 ok_l5 ok_n
theorem l_55_55 {V : xV} {g : xG} {Y : xW} {l0 : xT} {l1 : Int32} {l2 : Int32} {l3 : Int32} {l4 : Int32} {l5 : Option xT} {s0 : Option xT} {Q : Int32 → xW → Prop} (H : (s0 = none → L_55_74 V g Y l0 l1 l2 l3 l4 l5 none Q) ∧ (∀ u1, s0 = some u1 → L_185_0 V g Y l2 ((fI Y u1 2) + 1) (fun x3 Y2 => L_55_74 V g Y2 l0 l1 x3 l3 l4 l5 (some u1) Q))) : L_55_55 V g Y l0 l1 l2 l3 l4 l5 s0 Q := by
  intro h lv R e0 e1 e2 e3 e4 e5 ok_l0 ok_l5 ok_s0
  refine z_as (i := (.astore 6)) (len := 2) (pc' := 57) (q := 6) rfl rfl rfl (by decide) (rv_V g s0) (fun lv1 hlv => ?_)
  have e0 := xs1_A hlv e0 rfl rfl
  have e1 := xs1_A hlv e1 rfl rfl
  have e2 := xs1_A hlv e2 rfl rfl
  have e3 := xs1_A hlv e3 rfl rfl
  have e4 := xs1_A hlv e4 rfl rfl
  have e5 := xs1_B hlv e5 rfl (rv_c g l5)
  have e6 := xs1_N hlv
  clear hlv
  refine y_next (pc' := 59) (xst_of (i := (.aload 6)) (len := 2) rfl rfl (x_aloadV (rv_V g s0) e6)) ?_
  rcases s0 with _ | u1
  · replace H := H.1 rfl
    refine y_next (pc' := 74) (xst_of (i := (.ifnull 15)) (len := 3) rfl rfl rfl) ?_
    exact H _ _ R e0 e1 e2 e3 e4 e5 e6 ok_l0 ok_l5 ok_n
  · replace H := H.2 u1 rfl
    have ok_u1 := ok_s0 u1 rfl
    refine y_next (pc' := 62) (xst_of (i := (.ifnull 15)) (len := 3) rfl rfl rfl) ?_
    refine y_next (pc' := 63) (xst_of (i := (.iload_n 2)) (len := 1) rfl rfl (x_ilo e2)) ?_
    refine y_next (pc' := 65) (xst_of (i := (.aload 6)) (len := 2) rfl rfl (x_aloadV (xisV_r _) e6)) ?_
    refine z_gI (t := u1) (k := 2) rfl rfl rfl R ok_u1 ?_
    refine y_next (pc' := 69) (xst_of (i := (.iconst 1)) (len := 1) rfl rfl (x_ico (v := 1) (by decide))) ?_
    refine y_next (pc' := 70) (xst_of (i := .iadd) (len := 1) rfl rfl rfl) ?_
    refine z_cI (k := 185) (i := (.invokestatic 99)) (as := [.int l2, .int ((fI Y u1 2) + 1)]) (rest := []) rfl rfl rfl (H _ _ R rfl rfl) (fun x3 h Y2 R H => ?_)
    refine z_is (i := (.istore_n 2)) (len := 1) (pc' := 74) (q := 2) rfl rfl rfl (by decide) (fun lv2 hlv => ?_)
    have e0 := xs1_A hlv e0 rfl rfl
    have e1 := xs1_B hlv e1 rfl rfl
    have e3 := xs1_A hlv e3 rfl rfl
    have e4 := xs1_A hlv e4 rfl rfl
    have e5 := xs1_A hlv e5 rfl rfl
    have e6 := xs1_A hlv e6 rfl rfl
    have e2 := xs1_N hlv
    clear hlv
    exact H _ _ R e0 e1 e2 e3 e4 e5 e6 ok_l0 ok_l5 (ok_s ok_u1)
theorem l_55_74 {V : xV} {g : xG} {Y : xW} {l0 : xT} {l1 : Int32} {l2 : Int32} {l3 : Int32} {l4 : Int32} {l5 : Option xT} {l6 : Option xT} {Q : Int32 → xW → Prop} (H : L_55_7 V g Y l0 l1 l2 l3 (l4 + 1) Q) : L_55_74 V g Y l0 l1 l2 l3 l4 l5 l6 Q := by
  intro h lv R e0 e1 e2 e3 e4 e5 e6 ok_l0 ok_l5 ok_l6
  refine z_in (q := 4) (n := 1) (v := 1) rfl e4 (by decide) (by decide) (fun lv1 hlv => ?_)
  have e0 := xs1_A hlv e0 rfl rfl
  have e1 := xs1_A hlv e1 rfl rfl
  have e2 := xs1_A hlv e2 rfl rfl
  have e3 := xs1_B hlv e3 rfl rfl
  have e5 := xs1_A hlv e5 rfl rfl
  have e6 := xs1_A hlv e6 rfl rfl
  have e4 := xs1_N hlv
  clear hlv
  refine y_next (pc' := 7) (xst_of (i := (.goto (-70))) (len := 3) rfl rfl rfl) ?_
  exact H _ _ R e0 e1 e2 e3 e4 ok_l0
theorem l_56_0 {V : xV} {g : xG} {Y : xW} {l0 : xT} {l1 : Int32} {Q : Option xT → xW → Prop} (H : L_117_0 V g Y l1 (fun x2 Y1 => ((x2 = 18) → L_121_0 V g Y1 l1 (fun x4 Y3 => L_45_0 V g Y3 l0 x4 (fun o6 Y5 => Q o6 Y5))) ∧ (¬ (x2 = 18) → L_117_0 V g Y1 l1 (fun x8 Y7 => ((x8 = 19) → L_121_0 V g Y7 l1 (fun x10 Y9 => L_46_0 V g Y9 l0 x10 (fun o12 Y11 => L_56_39 V g Y11 l0 l1 o12 Q))) ∧ (¬ (x8 = 19) → L_56_39 V g Y7 l0 l1 none Q))))) : L_56_0 V g Y l0 l1 Q := by
  intro h lv R e0 e1 ok_l0
  refine y_next (pc' := 1) (xst_of (i := (.iload_n 1)) (len := 1) rfl rfl (x_ilo e1)) ?_
  refine z_cI (k := 117) (i := (.invokestatic 105)) (as := [.int l1]) (rest := []) rfl rfl rfl (H _ _ R rfl) (fun x2 h Y1 R H => ?_)
  refine y_next (pc' := 6) (xst_of (i := (.bipush 18)) (len := 2) rfl rfl (x_bip (v := 18) (by decide))) ?_
  by_cases hc : x2 = 18
  · replace H := H.1 hc
    refine y_next (pc' := 9) (xst_of (i := (.if_icmp .ne 12)) (len := 3) rfl rfl (xf_icmp_ne (t := 18) rfl (fun z => z hc))) ?_
    refine y_next (pc' := 10) (xst_of (i := (.aload_n 0)) (len := 1) rfl rfl (x_aloadV (xisV_r _) e0)) ?_
    refine y_next (pc' := 11) (xst_of (i := (.iload_n 1)) (len := 1) rfl rfl (x_ilo e1)) ?_
    refine z_cI (k := 121) (i := (.invokestatic 108)) (as := [.int l1]) (rest := [.ref (g.2 l0 0)]) rfl rfl rfl (H _ _ R rfl) (fun x4 h Y3 R H => ?_)
    refine z_cR (c := 0) (k := 45) (i := (.invokevirtual 55)) (as := [.ref (g.2 l0 0), .int x4]) (rest := []) rfl rfl (x_callv rfl rfl (rc_ob R ok_l0 rfl) rfl rfl) (H _ _ R rfl rfl ok_l0) (fun o6 h Y5 R ok_o6 H => ?_)
    exact y_ret (xst_of (i := .areturn) (len := 1) rfl rfl (x_aretV rfl (rv_V g o6))) ⟨o6, _, rfl, R, ok_o6, H⟩
  · replace H := H.2 hc
    refine y_next (xst_of (i := (.if_icmp .ne 12)) (len := 3) rfl rfl (xt_icmp_ne (t := 18) rfl hc)) ?_
    refine y_next (pc' := 19) (xst_of (i := (.iload_n 1)) (len := 1) rfl rfl (x_ilo e1)) ?_
    refine z_cI (k := 117) (i := (.invokestatic 105)) (as := [.int l1]) (rest := []) rfl rfl rfl (H _ _ R rfl) (fun x8 h Y7 R H => ?_)
    refine y_next (pc' := 24) (xst_of (i := (.bipush 19)) (len := 2) rfl rfl (x_bip (v := 19) (by decide))) ?_
    by_cases hc : x8 = 19
    · replace H := H.1 hc
      refine y_next (pc' := 27) (xst_of (i := (.if_icmp .ne 14)) (len := 3) rfl rfl (xf_icmp_ne (t := 38) rfl (fun z => z hc))) ?_
      refine y_next (pc' := 28) (xst_of (i := (.aload_n 0)) (len := 1) rfl rfl (x_aloadV (xisV_r _) e0)) ?_
      refine y_next (pc' := 29) (xst_of (i := (.iload_n 1)) (len := 1) rfl rfl (x_ilo e1)) ?_
      refine z_cI (k := 121) (i := (.invokestatic 108)) (as := [.int l1]) (rest := [.ref (g.2 l0 0)]) rfl rfl rfl (H _ _ R rfl) (fun x10 h Y9 R H => ?_)
      refine z_cR (c := 3) (k := 46) (i := (.invokevirtual 111)) (as := [.ref (g.2 l0 0), .int x10]) (rest := []) rfl rfl (x_callv rfl rfl (rc_ob R ok_l0 rfl) rfl rfl) (H _ _ R rfl rfl ok_l0) (fun o12 h Y11 R ok_o12 H => ?_)
      refine y_next (pc' := 39) (xst_of (i := (.goto 4)) (len := 3) rfl rfl rfl) ?_
      exact H _ _ R e0 e1 ok_l0 ok_o12
    · replace H := H.2 hc
      refine y_next (xst_of (i := (.if_icmp .ne 14)) (len := 3) rfl rfl (xt_icmp_ne (t := 38) rfl hc)) ?_
      refine y_next (pc' := 39) (xst_of (i := .aconst_null) (len := 1) rfl rfl rfl) ?_
      exact H _ _ R e0 e1 ok_l0 ok_n
theorem l_56_39 {V : xV} {g : xG} {Y : xW} {l0 : xT} {l1 : Int32} {s0 : Option xT} {Q : Option xT → xW → Prop} (H : (s0 = none → L_56_52 V g Y l0 l1 none none Q) ∧ (∀ u1, s0 = some u1 → ∀ o2, o2 = fR Y u1 1 0 → L_56_52 V g Y l0 l1 (some u1) o2 Q)) : L_56_39 V g Y l0 l1 s0 Q := by
  intro h lv R e0 e1 ok_l0 ok_s0
  refine z_as (i := (.astore_n 2)) (len := 1) (pc' := 40) (q := 2) rfl rfl rfl (by decide) (rv_V g s0) (fun lv1 hlv => ?_)
  have e0 := xs1_A hlv e0 rfl rfl
  have e1 := xs1_B hlv e1 rfl rfl
  have e2 := xs1_N hlv
  clear hlv
  refine y_next (pc' := 41) (xst_of (i := (.aload_n 2)) (len := 1) rfl rfl (x_aloadV (rv_V g s0) e2)) ?_
  rcases s0 with _ | u1
  · replace H := H.1 rfl
    refine y_next (pc' := 44) (xst_of (i := (.ifnonnull 7)) (len := 3) rfl rfl rfl) ?_
    refine y_next (pc' := 45) (xst_of (i := .aconst_null) (len := 1) rfl rfl rfl) ?_
    refine y_next (pc' := 52) (xst_of (i := (.goto 7)) (len := 3) rfl rfl rfl) ?_
    exact H _ _ R e0 e1 e2 ok_l0 ok_n ok_n
  · replace H := H.2 u1 rfl
    have ok_u1 := ok_s0 u1 rfl
    refine y_next (pc' := 48) (xst_of (i := (.ifnonnull 7)) (len := 3) rfl rfl rfl) ?_
    refine y_next (pc' := 49) (xst_of (i := (.aload_n 2)) (len := 1) rfl rfl (x_aloadV (xisV_r _) e2)) ?_
    refine z_gR (t := u1) (k := 1) rfl rfl rfl R ok_u1 rfl (fun o2 ho ok_o2 => ?_)
    replace H := H o2 ho
    clear ho
    exact H _ _ R e0 e1 e2 ok_l0 (ok_s ok_u1) ok_o2
theorem l_56_52 {V : xV} {g : xG} {Y : xW} {l0 : xT} {l1 : Int32} {l2 : Option xT} {s0 : Option xT} {Q : Option xT → xW → Prop} (H : Q s0 Y) : L_56_52 V g Y l0 l1 l2 s0 Q := by
  intro h lv R e0 e1 e2 ok_l0 ok_l2 ok_s0
  exact y_ret (xst_of (i := .areturn) (len := 1) rfl rfl (x_aretV rfl (rv_V g s0))) ⟨s0, _, rfl, R, ok_s0, H⟩
