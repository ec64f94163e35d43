/-! the makers -/
theorem cs_0 {V : xV} {g : xG} {h : xH} {Y : xW} (R : RC V g h Y) : xcs h h h.2.1 [] (fC Y).2.1 (fC Y).2.2 := ⟨rfl, (fun i e hi => by cases hi), (fun _ _ => rfl), (by rw [← R.2.2.2.2.2.2.1.1])⟩
theorem mv_O {g g' : xG} {t : xT} {c : Nat} (h : xle g g') (ht : xok g t c) (o : Nat) : some (Value.ref (g.2 t o)) = some (Value.ref (g'.2 t o)) := by rw [xle_ad h ht]
theorem mv_N {g g' : xG} {o : Option xT} {c : Nat} (h : xle g g') (ho : ∀ u, o = some u → xok g u c) : some (xrv g o) = some (xrv g' o) := by rw [xle_rv h ho]
theorem lGI_le {V : xV} {g g' : xG} {Q : Int32 → xG → xW → Prop} (hle : xle g g') : ∀ r h, lGI V g' Q r h → lGI V g Q r h := fun r h ⟨x, g2, Y, a, b, c, d⟩ => ⟨x, g2, Y, a, b, xle_t hle c, d⟩
/-! 49: RegionYard$Program.setLabel(II)Z -/
def L_49_0 (V : xV) (g : xG) (Y : xW) (l0 : xT) (l1 : Int32) (l2 : Int32) (Q : Int32 → xG → xW → Prop) : Prop := ∀ (h : xH) (lv : xL), RC V g h Y → xlk lv 0 = some (.ref (g.2 l0 0)) → xlk lv 1 = some (.int l1) → xlk lv 2 = some (.int l2) → xok g l0 5 → xY V 49 0 lv [] h (lGI V g Q)
def L_49_16 (V : xV) (g : xG) (Y : xW) (l0 : xT) (l1 : Int32) (l2 : Int32) (Q : Int32 → xG → xW → Prop) : Prop := ∀ (h : xH) (lv : xL), RC V g h Y → xlk lv 0 = some (.ref (g.2 l0 0)) → xlk lv 1 = some (.int l1) → xlk lv 2 = some (.int l2) → xok g l0 5 → xY V 49 16 lv [] h (lGI V g Q)
def L_49_44 (V : xV) (g : xG) (Y : xW) (l0 : xT) (l1 : Int32) (l2 : Int32) (l3 : Option xT) (Q : Int32 → xG → xW → Prop) : Prop := ∀ (h : xH) (lv : xL), RC V g h Y → xlk lv 0 = some (.ref (g.2 l0 0)) → xlk lv 1 = some (.int l1) → xlk lv 2 = some (.int l2) → xlk lv 3 = some (xrv g l3) → xok g l0 5 → (∀ u, l3 = some u → xok g u 2) → xY V 49 44 lv [] h (lGI V g Q)
/-! 50: RegionYard$Program.addFunction(I)I -/
def L_50_0 (V : xV) (g : xG) (Y : xW) (l0 : xT) (l1 : Int32) (Q : Int32 → xG → xW → Prop) : Prop := ∀ (h : xH) (lv : xL), RC V g h Y → xlk lv 0 = some (.ref (g.2 l0 0)) → xlk lv 1 = some (.int l1) → xok g l0 5 → xY V 50 0 lv [] h (lGI V g Q)
def L_50_17 (V : xV) (g : xG) (Y : xW) (l0 : xT) (l1 : Int32) (Q : Int32 → xG → xW → Prop) : Prop := ∀ (h : xH) (lv : xL), RC V g h Y → xlk lv 0 = some (.ref (g.2 l0 0)) → xlk lv 1 = some (.int l1) → xok g l0 5 → xY V 50 17 lv [] h (lGI V g Q)
/-! 51: RegionYard$Program.addLink(ILRegionYard$Function;LRegionYard$Label;)I -/
def L_51_0 (V : xV) (g : xG) (Y : xW) (l0 : xT) (l1 : Int32) (l2 : xT) (l3 : xT) (Q : Int32 → xG → xW → Prop) : Prop := ∀ (h : xH) (lv : xL), RC V g h Y → xlk lv 0 = some (.ref (g.2 l0 0)) → xlk lv 1 = some (.int l1) → xlk lv 2 = some (.ref (g.2 l2 0)) → xlk lv 3 = some (.ref (g.2 l3 0)) → xok g l0 5 → xok g l2 0 → xok g l3 2 → xY V 51 0 lv [] h (lGI V g Q)
/-! 88: RegionYard.begin(I)I -/
def L_88_0 (V : xV) (g : xG) (Y : xW) (l1 : Int32) (Q : Int32 → xG → xW → Prop) : Prop := ∀ (h : xH) (lv : xL), RC V g h Y → xlk lv 0 = some (.ref (g.2 (9, 0, 0) 0)) → xlk lv 1 = some (.int l1) → xY V 88 0 lv [] h (lGI V g Q)
def L_88_28 (V : xV) (g : xG) (Y : xW) (l1 : Int32) (Q : Int32 → xG → xW → Prop) : Prop := ∀ (h : xH) (lv : xL), RC V g h Y → xlk lv 0 = some (.ref (g.2 (9, 0, 0) 0)) → xlk lv 1 = some (.int l1) → xY V 88 28 lv [] h (lGI V g Q)
/-! 90: RegionYard.label(II)Z -/
def L_90_0 (V : xV) (g : xG) (Y : xW) (l1 : Int32) (l2 : Int32) (Q : Int32 → xG → xW → Prop) : Prop := ∀ (h : xH) (lv : xL), RC V g h Y → xlk lv 0 = some (.ref (g.2 (9, 0, 0) 0)) → xlk lv 1 = some (.int l1) → xlk lv 2 = some (.int l2) → xY V 90 0 lv [] h (lGI V g Q)
def L_90_23 (V : xV) (g : xG) (Y : xW) (l1 : Int32) (l2 : Int32) (Q : Int32 → xG → xW → Prop) : Prop := ∀ (h : xH) (lv : xL), RC V g h Y → xlk lv 0 = some (.ref (g.2 (9, 0, 0) 0)) → xlk lv 1 = some (.int l1) → xlk lv 2 = some (.int l2) → xY V 90 23 lv [] h (lGI V g Q)
def L_90_24 (V : xV) (g : xG) (Y : xW) (l1 : Int32) (l2 : Int32) (s0 : Int32) (Q : Int32 → xG → xW → Prop) : Prop := ∀ (h : xH) (lv : xL), RC V g h Y → xlk lv 0 = some (.ref (g.2 (9, 0, 0) 0)) → xlk lv 1 = some (.int l1) → xlk lv 2 = some (.int l2) → xY V 90 24 lv [.int s0] h (lGI V g Q)
/-! 92: RegionYard.function(I)I -/
def L_92_0 (V : xV) (g : xG) (Y : xW) (l1 : Int32) (Q : Int32 → xG → xW → Prop) : Prop := ∀ (h : xH) (lv : xL), RC V g h Y → xlk lv 0 = some (.ref (g.2 (9, 0, 0) 0)) → xlk lv 1 = some (.int l1) → xY V 92 0 lv [] h (lGI V g Q)
def L_92_19 (V : xV) (g : xG) (Y : xW) (l1 : Int32) (s0 : Int32) (Q : Int32 → xG → xW → Prop) : Prop := ∀ (h : xH) (lv : xL), RC V g h Y → xlk lv 0 = some (.ref (g.2 (9, 0, 0) 0)) → xlk lv 1 = some (.int l1) → xY V 92 19 lv [.int s0] h (lGI V g Q)
/-! 94: RegionYard.link(II)I -/
def L_94_0 (V : xV) (g : xG) (Y : xW) (l1 : Int32) (l2 : Int32) (Q : Int32 → xG → xW → Prop) : Prop := ∀ (h : xH) (lv : xL), RC V g h Y → xlk lv 0 = some (.ref (g.2 (9, 0, 0) 0)) → xlk lv 1 = some (.int l1) → xlk lv 2 = some (.int l2) → xY V 94 0 lv [] h (lGI V g Q)
def L_94_36 (V : xV) (g : xG) (Y : xW) (l1 : Int32) (l2 : Int32) (l3 : Option xT) (Q : Int32 → xG → xW → Prop) : Prop := ∀ (h : xH) (lv : xL), RC V g h Y → xlk lv 0 = some (.ref (g.2 (9, 0, 0) 0)) → xlk lv 1 = some (.int l1) → xlk lv 2 = some (.int l2) → xlk lv 3 = some (xrv g l3) → (∀ u, l3 = some u → xok g u 5) → xY V 94 36 lv [] h (lGI V g Q)
def L_94_72 (V : xV) (g : xG) (Y : xW) (l1 : Int32) (l2 : Int32) (l3 : Option xT) (l4 : Option xT) (l5 : Option xT) (Q : Int32 → xG → xW → Prop) : Prop := ∀ (h : xH) (lv : xL), RC V g h Y → xlk lv 0 = some (.ref (g.2 (9, 0, 0) 0)) → xlk lv 1 = some (.int l1) → xlk lv 2 = some (.int l2) → xlk lv 3 = some (xrv g l3) → xlk lv 4 = some (xrv g l4) → xlk lv 5 = some (xrv g l5) → (∀ u, l3 = some u → xok g u 5) → (∀ u, l4 = some u → xok g u 0) → (∀ u, l5 = some u → xok g u 2) → xY V 94 72 lv [] h (lGI V g Q)
/-! 97: RegionYard.spawn(II)I -/
def L_97_0 (V : xV) (g : xG) (Y : xW) (l1 : Int32) (l2 : Int32) (Q : Int32 → xG → xW → Prop) : Prop := ∀ (h : xH) (lv : xL), RC V g h Y → xlk lv 0 = some (.ref (g.2 (9, 0, 0) 0)) → xlk lv 1 = some (.int l1) → xlk lv 2 = some (.int l2) → xY V 97 0 lv [] h (lGI V g Q)
def L_97_64 (V : xV) (g : xG) (Y : xW) (l1 : Int32) (l2 : Int32) (l3 : Option xT) (l4 : Int32) (Q : Int32 → xG → xW → Prop) : Prop := ∀ (h : xH) (lv : xL), RC V g h Y → xlk lv 0 = some (.ref (g.2 (9, 0, 0) 0)) → xlk lv 1 = some (.int l1) → xlk lv 2 = some (.int l2) → xlk lv 3 = some (xrv g l3) → xlk lv 4 = some (.int l4) → (∀ u, l3 = some u → xok g u 5) → xY V 97 64 lv [] h (lGI V g Q)
theorem l_49_0 {V : xV} {g : xG} {Y : xW} {l0 : xT} {l1 : Int32} {l2 : Int32} {Q : Int32 → xG → xW → Prop} (H : L_42_0 V g Y l0 l1 (fun x2 Y1 => ((x2 = 0) → L_49_16 V g Y1 l0 l1 l2 Q) ∧ (¬ (x2 = 0) → L_45_0 V g Y1 l0 l2 (fun o4 Y3 => (o4 = none → L_49_16 V g Y3 l0 l1 l2 Q) ∧ (∀ u5, o4 = some u5 → vp_in l1 200 ∧ ∀ o6, o6 = fR Y3 l0 2 (Int32.toNatClampNeg l1) → (o6 = none → ∃ i8 k9, g.1 (2, i8, k9) = false ∧ g.1 (22, i8, k9) = false ∧ ∀ (g10 : xG) (Y12 : xW), xle g g10 → (∀ t, g10.1 t = true ↔ g.1 t = true ∨ t = (2, i8, k9) ∨ t = (22, i8, k9)) → Y12 = (uC Y3 ((fC Y3).1 + 5, (fC Y3).2.1 + 1 + 1 + 1 + 1 + 1, (fC Y3).2.2 + 2 + 3 + 8 + 8 + 8)) → vp_in l1 200 ∧ ∀ Y13, Y13 = uR Y12 l0 2 (Int32.toNatClampNeg l1) (some (2, i8, k9)) → L_49_44 V g10 Y13 l0 l1 l2 (some (2, i8, k9)) Q) ∧ (∀ u7, o6 = some u7 → L_49_44 V g Y3 l0 l1 l2 (some u7) Q)))))) : L_49_0 V g Y l0 l1 l2 Q := by
  intro h lv R e0 e1 e2 ok_l0
  refine y_next (pc' := 1) (xst_of (i := (.aload_n 0)) (len := 1) rfl rfl (x_aloadV (xisV_r _) e0)) ?_
  refine y_next (pc' := 2) (xst_of (i := (.iload_n 1)) (len := 1) rfl rfl (x_ilo e1)) ?_
  refine z_cI (k := 42) (i := (.invokevirtual 69)) (as := [.ref (g.2 l0 0), .int l1]) (rest := []) rfl rfl (x_callv rfl rfl (rc_ob R ok_l0 rfl) rfl rfl) (H _ _ R rfl rfl ok_l0) (fun x2 h Y1 R H => ?_)
  by_cases hc : x2 = 0
  · replace H := H.1 hc
    refine y_next (xst_of (i := (.ifCond .eq 11)) (len := 3) rfl rfl (xt_if_eq (t := 16) rfl hc)) ?_
    exact H _ _ R e0 e1 e2 ok_l0
  · replace H := H.2 hc
    refine y_next (pc' := 8) (xst_of (i := (.ifCond .eq 11)) (len := 3) rfl rfl (xf_if_eq (t := 16) rfl hc)) ?_
    refine y_next (pc' := 9) (xst_of (i := (.aload_n 0)) (len := 1) rfl rfl (x_aloadV (xisV_r _) e0)) ?_
    refine y_next (pc' := 10) (xst_of (i := (.iload_n 2)) (len := 1) rfl rfl (x_ilo e2)) ?_
    refine z_cR (c := 0) (k := 45) (i := (.invokevirtual 55)) (as := [.ref (g.2 l0 0), .int l2]) (rest := []) rfl rfl (x_callv rfl rfl (rc_ob R ok_l0 rfl) rfl rfl) (H _ _ R rfl rfl ok_l0) (fun o4 h Y3 R ok_o4 H => ?_)
    rcases o4 with _ | u5
    · replace H := H.1 rfl
      refine y_next (pc' := 16) (xst_of (i := (.ifnonnull 5)) (len := 3) rfl rfl rfl) ?_
      exact H _ _ R e0 e1 e2 ok_l0
    · replace H := H.2 u5 rfl
      have ok_u5 := ok_o4 u5 rfl
      refine y_next (pc' := 18) (xst_of (i := (.ifnonnull 5)) (len := 3) rfl rfl rfl) ?_
      refine y_next (pc' := 19) (xst_of (i := (.aload_n 0)) (len := 1) rfl rfl (x_aloadV (xisV_r _) e0)) ?_
      refine z_gA (t := l0) (k := 2) rfl rfl rfl R ok_l0 ?_
      refine y_next (pc' := 23) (xst_of (i := (.iload_n 1)) (len := 1) rfl rfl (x_ilo e1)) ?_
      refine z_aR (t := l0) (k := 2) (m := 1) (n := 200) (i := l1) rfl rfl (by decide) R ok_l0 H.1 rfl (fun o6 ho ok_o6 => ?_)
      replace H := H.2 o6 ho
      clear ho
      refine z_as (i := (.astore_n 3)) (len := 1) (pc' := 25) (q := 3) rfl rfl rfl (by decide) (rv_V g o6) (fun lv1 hlv => ?_)
      have e0 := xs1_A hlv e0 rfl rfl
      have e1 := xs1_A hlv e1 rfl rfl
      have e2 := xs1_B hlv e2 rfl rfl
      have e3 := xs1_N hlv
      clear hlv
      refine y_next (pc' := 26) (xst_of (i := (.aload_n 3)) (len := 1) rfl rfl (x_aloadV (rv_V g o6) e3)) ?_
      rcases o6 with _ | u7
      · replace H := H.1 rfl
        refine y_next (pc' := 29) (xst_of (i := (.ifnonnull 18)) (len := 3) rfl rfl rfl) ?_
        refine c_new (ci := 2) (n := 2) (e := .inr (2, [.null, .int 0])) (r := 0) (L' := [.inr (2, [.null, .int 0])]) rfl rfl rfl (cs_0 R) rfl rfl rfl rfl (fun h' S => ?_)
        refine y_next (pc' := 33) (xst_of (i := .dup) (len := 1) rfl rfl (x_dup rfl)) ?_
        refine c_call (k := 27) (i := (.invokespecial 73)) (as := [.ref h.2.1]) (rest := [.ref h.2.1]) (A := []) (B := [.inr (2, [.null, .int 0])]) (B' := [.inr (2, [.ref ((h.2.1 + 0) + 1), .int 0]), .inr (8, [.ref ((h.2.1 + 0) + 2), .ref ((h.2.1 + 0) + 3), .ref ((h.2.1 + 0) + 4)]), .inl (0, 8, .inl (fun _ => 0)), .inl (0, 8, .inl (fun _ => 0)), .inl (0, 8, .inl (fun _ => 0))]) (a := 0) (L' := [.inr (2, [.ref (h.2.1 + 1), .int 0]), .inr (8, [.ref (h.2.1 + 2), .ref (h.2.1 + 3), .ref (h.2.1 + 4)]), .inl (0, 8, .inl (fun _ => 0)), .inl (0, 8, .inl (fun _ => 0)), .inl (0, 8, .inl (fun _ => 0))]) rfl rfl rfl S rfl rfl (fun Q S K => ct_27 S K) rfl (fun h1 S => ?_)
        obtain ⟨i8, k9, ht0, ht1, H⟩ := H
        have hC := R.2.2.2.2.2.2.1.1
        obtain ⟨g10, R1, hle11, hal, had⟩ := mk_2 (i := i8) (k := k9) R S ht0 ht1
        rw [hC] at R1
        obtain ⟨Y12, hY⟩ : ∃ z, z = (uC Y3 ((fC Y3).1 + 5, (fC Y3).2.1 + 1 + 1 + 1 + 1 + 1, (fC Y3).2.2 + 2 + 3 + 8 + 8 + 8)) := ⟨_, rfl⟩
        replace R1 : RC V g10 h1 Y12 := by rw [hY]; exact R1
        replace H := H g10 Y12 hle11 hal hY
        rw [← had]
        have ok_g10 : xok g10 (2, i8, k9) 2 := ⟨(hal _).mpr (Or.inr (Or.inl rfl)), rfl⟩
        replace e0 := e0.trans (mv_O hle11 ok_l0 0)
        have ok_l0 := xle_ok hle11 ok_l0
        clear R
        have R := R1
        clear R1
        refine z_as (i := (.astore_n 3)) (len := 1) (pc' := 37) (q := 3) rfl rfl rfl (by decide) (xisV_r _) (fun lv2 hlv => ?_)
        have e0 := xs1_A hlv e0 rfl rfl
        have e1 := xs1_A hlv e1 rfl rfl
        have e2 := xs1_B hlv e2 rfl rfl
        have e3 := xs1_N hlv
        clear hlv
        refine y_next (pc' := 38) (xst_of (i := (.aload_n 0)) (len := 1) rfl rfl (x_aloadV (xisV_r _) e0)) ?_
        refine z_gA (t := l0) (k := 2) rfl rfl rfl R ok_l0 ?_
        refine y_next (pc' := 42) (xst_of (i := (.iload_n 1)) (len := 1) rfl rfl (x_ilo e1)) ?_
        refine y_next (pc' := 43) (xst_of (i := (.aload_n 3)) (len := 1) rfl rfl (x_aloadV (xisV_r _) e3)) ?_
        refine z_sR (t := l0) (k := 2) (m := 1) (n := 200) (i := l1) rfl rfl rfl rfl rfl rfl R ok_l0 ok_g10 H.1 (fun h Y13 hY R => ?_)
        replace H := H.2 Y13 hY
        clear hY
        exact (H _ _ R e0 e1 e2 e3 ok_l0 (ok_s ok_g10)).imp (lGI_le hle11)
      · replace H := H.2 u7 rfl
        have ok_u7 := ok_o6 u7 rfl
        refine y_next (pc' := 44) (xst_of (i := (.ifnonnull 18)) (len := 3) rfl rfl rfl) ?_
        exact H _ _ R e0 e1 e2 e3 ok_l0 (ok_s ok_u7)
theorem l_49_16 {V : xV} {g : xG} {Y : xW} {l0 : xT} {l1 : Int32} {l2 : Int32} {Q : Int32 → xG → xW → Prop} (H : ((0 : Int32) = 0 ∨ (0 : Int32) = 1) ∧ Q 0 g Y) : L_49_16 V g Y l0 l1 l2 Q := by
  intro h lv R e0 e1 e2 ok_l0
  refine y_next (pc' := 17) (xst_of (i := (.iconst 0)) (len := 1) rfl rfl (x_ico (v := 0) (by decide))) ?_
  exact y_ret (xst_of (i := .ireturn) (len := 1) rfl rfl (x_zret rfl H.1)) ⟨_, _, _, rfl, R, xle_r, H.2⟩
theorem l_49_44 {V : xV} {g : xG} {Y : xW} {l0 : xT} {l1 : Int32} {l2 : Int32} {l3 : Option xT} {Q : Int32 → xG → xW → Prop} (H : ∃ u1, l3 = some u1 ∧ L_83_0 V g Y (xsub u1 0) (fun Y2 => ∀ Y3, Y3 = uI Y2 u1 1 l2 → ((1 : Int32) = 0 ∨ (1 : Int32) = 1) ∧ Q 1 g Y3)) : L_49_44 V g Y l0 l1 l2 l3 Q := by
  intro h lv R e0 e1 e2 e3 ok_l0 ok_l3
  refine y_next (pc' := 45) (xst_of (i := (.aload_n 3)) (len := 1) rfl rfl (x_aloadV (rv_V g l3) e3)) ?_
  obtain ⟨u1, hn, H⟩ := H
  subst hn
  have ok_u1 := ok_l3 u1 rfl
  refine z_gO (t := u1) (k := 0) rfl rfl rfl R ok_u1 ?_
  refine z_cN (k := 83) (i := (.invokevirtual 78)) (as := [.ref (g.2 (xsub u1 0) 0)]) (rest := []) rfl rfl (x_callv rfl rfl (rc_ob R (rc_sb R ok_u1 (k := 0) rfl rfl) rfl) rfl rfl) (H _ _ R rfl (rc_sb R ok_u1 (k := 0) rfl rfl)) (fun h Y2 R H => ?_)
  refine y_next (pc' := 52) (xst_of (i := (.aload_n 3)) (len := 1) rfl rfl (x_aloadV (xisV_r _) e3)) ?_
  refine y_next (pc' := 53) (xst_of (i := (.iload_n 2)) (len := 1) rfl rfl (x_ilo e2)) ?_
  refine z_pI (t := u1) (k := 1) rfl rfl rfl rfl rfl R ok_u1 (fun h Y3 hY R => ?_)
  replace H := H Y3 hY
  clear hY
  refine y_next (pc' := 57) (xst_of (i := (.iconst 1)) (len := 1) rfl rfl (x_ico (v := 1) (by decide))) ?_
  exact y_ret (xst_of (i := .ireturn) (len := 1) rfl rfl (x_zret rfl H.1)) ⟨_, _, _, rfl, R, xle_r, H.2⟩
theorem l_50_0 {V : xV} {g : xG} {Y : xW} {l0 : xT} {l1 : Int32} {Q : Int32 → xG → xW → Prop} (H : ((8 ≤ (fI Y l0 6)) → L_50_17 V g Y l0 l1 Q) ∧ (¬ (8 ≤ (fI Y l0 6)) → L_42_0 V g Y l0 l1 (fun x2 Y1 => ((x2 = 0) → L_50_17 V g Y1 l0 l1 Q) ∧ (¬ (x2 = 0) → ∃ i3 k4, g.1 (0, i3, k4) = false ∧ g.1 (20, i3, k4) = false ∧ ∀ (g5 : xG) (Y7 : xW), xle g g5 → (∀ t, g5.1 t = true ↔ g.1 t = true ∨ t = (0, i3, k4) ∨ t = (20, i3, k4)) → Y7 = (uI (uC Y1 ((fC Y1).1 + 5, (fC Y1).2.1 + 1 + 1 + 1 + 1 + 1, (fC Y1).2.2 + 3 + 3 + 8 + 8 + 8)) (0, i3, k4) 0 l1) → vp_in (fI Y1 l0 6) 8 ∧ ∀ Y8, Y8 = uR Y7 l0 3 (Int32.toNatClampNeg (fI Y1 l0 6)) (some (0, i3, k4)) → ∀ Y9, Y9 = uI Y8 l0 6 ((fI Y8 l0 6) + 1) → Q ((fI Y9 l0 6) - 1) g5 Y9)))) : L_50_0 V g Y l0 l1 Q := by
  intro h lv R e0 e1 ok_l0
  refine y_next (pc' := 1) (xst_of (i := (.aload_n 0)) (len := 1) rfl rfl (x_aloadV (xisV_r _) e0)) ?_
  refine z_gI (t := l0) (k := 6) rfl rfl rfl R ok_l0 ?_
  refine y_next (pc' := 6) (xst_of (i := (.bipush 8)) (len := 2) rfl rfl (x_bip (v := 8) (by decide))) ?_
  by_cases hc : 8 ≤ (fI Y l0 6)
  · replace H := H.1 hc
    refine y_next (xst_of (i := (.if_icmp .ge 11)) (len := 3) rfl rfl (xt_icmp_ge (t := 17) rfl hc)) ?_
    exact H _ _ R e0 e1 ok_l0
  · replace H := H.2 hc
    refine y_next (pc' := 9) (xst_of (i := (.if_icmp .ge 11)) (len := 3) rfl rfl (xf_icmp_ge (t := 17) rfl hc)) ?_
    refine y_next (pc' := 10) (xst_of (i := (.aload_n 0)) (len := 1) rfl rfl (x_aloadV (xisV_r _) e0)) ?_
    refine y_next (pc' := 11) (xst_of (i := (.iload_n 1)) (len := 1) rfl rfl (x_ilo e1)) ?_
    refine z_cI (k := 42) (i := (.invokevirtual 69)) (as := [.ref (g.2 l0 0), .int l1]) (rest := []) rfl rfl (x_callv rfl rfl (rc_ob R ok_l0 rfl) rfl rfl) (H _ _ R rfl rfl ok_l0) (fun x2 h Y1 R H => ?_)
    by_cases hc : x2 = 0
    · replace H := H.1 hc
      refine y_next (pc' := 17) (xst_of (i := (.ifCond .ne 5)) (len := 3) rfl rfl (xf_if_ne (t := 19) rfl (fun z => z hc))) ?_
      exact H _ _ R e0 e1 ok_l0
    · replace H := H.2 hc
      refine y_next (xst_of (i := (.ifCond .ne 5)) (len := 3) rfl rfl (xt_if_ne (t := 19) rfl hc)) ?_
      refine y_next (pc' := 20) (xst_of (i := (.aload_n 0)) (len := 1) rfl rfl (x_aloadV (xisV_r _) e0)) ?_
      refine z_gA (t := l0) (k := 3) rfl rfl rfl R ok_l0 ?_
      refine y_next (pc' := 24) (xst_of (i := (.aload_n 0)) (len := 1) rfl rfl (x_aloadV (xisV_r _) e0)) ?_
      refine z_gI (t := l0) (k := 6) rfl rfl rfl R ok_l0 ?_
      refine c_new (ci := 0) (n := 3) (e := .inr (0, [.int 0, .null, .int 0])) (r := 0) (L' := [.inr (0, [.int 0, .null, .int 0])]) rfl rfl rfl (cs_0 R) rfl rfl rfl rfl (fun h' S => ?_)
      refine y_next (pc' := 31) (xst_of (i := .dup) (len := 1) rfl rfl (x_dup rfl)) ?_
      refine y_next (pc' := 32) (xst_of (i := (.iload_n 1)) (len := 1) rfl rfl (x_ilo e1)) ?_
      refine c_call (k := 0) (i := (.invokespecial 43)) (as := [.ref h.2.1, .int l1]) (rest := [.ref h.2.1, .int (fI Y1 l0 6), .ref (g.2 l0 4)]) (A := []) (B := [.inr (0, [.int 0, .null, .int 0])]) (B' := [.inr (0, [.int l1, .ref ((h.2.1 + 0) + 1), .int 0]), .inr (8, [.ref ((h.2.1 + 0) + 2), .ref ((h.2.1 + 0) + 3), .ref ((h.2.1 + 0) + 4)]), .inl (0, 8, .inl (fun _ => 0)), .inl (0, 8, .inl (fun _ => 0)), .inl (0, 8, .inl (fun _ => 0))]) (a := 0) (L' := [.inr (0, [.int l1, .ref (h.2.1 + 1), .int 0]), .inr (8, [.ref (h.2.1 + 2), .ref (h.2.1 + 3), .ref (h.2.1 + 4)]), .inl (0, 8, .inl (fun _ => 0)), .inl (0, 8, .inl (fun _ => 0)), .inl (0, 8, .inl (fun _ => 0))]) rfl rfl rfl S rfl rfl (fun Q S K => ct_0 S K) rfl (fun h1 S => ?_)
      obtain ⟨i3, k4, ht0, ht1, H⟩ := H
      have hC := R.2.2.2.2.2.2.1.1
      obtain ⟨g5, R1, hle6, hal, had⟩ := mk_0 (i := i3) (k := k4) R S ht0 ht1
      rw [hC] at R1
      obtain ⟨Y7, hY⟩ : ∃ z, z = (uI (uC Y1 ((fC Y1).1 + 5, (fC Y1).2.1 + 1 + 1 + 1 + 1 + 1, (fC Y1).2.2 + 3 + 3 + 8 + 8 + 8)) (0, i3, k4) 0 l1) := ⟨_, rfl⟩
      replace R1 : RC V g5 h1 Y7 := by rw [hY]; exact R1
      replace H := H g5 Y7 hle6 hal hY
      rw [← had]
      have ok_g5 : xok g5 (0, i3, k4) 0 := ⟨(hal _).mpr (Or.inr (Or.inl rfl)), rfl⟩
      replace e0 := e0.trans (mv_O hle6 ok_l0 0)
      rw [xle_ad hle6 ok_l0 4]
      have ok_l0 := xle_ok hle6 ok_l0
      clear R
      have R := R1
      clear R1
      refine z_sR (t := l0) (k := 3) (m := 0) (n := 8) (i := (fI Y1 l0 6)) rfl rfl rfl rfl rfl rfl R ok_l0 ok_g5 H.1 (fun h Y8 hY R => ?_)
      replace H := H.2 Y8 hY
      clear hY
      refine y_next (pc' := 37) (xst_of (i := (.aload_n 0)) (len := 1) rfl rfl (x_aloadV (xisV_r _) e0)) ?_
      refine y_next (pc' := 38) (xst_of (i := .dup) (len := 1) rfl rfl (x_dup rfl)) ?_
      refine z_gI (t := l0) (k := 6) rfl rfl rfl R ok_l0 ?_
      refine y_next (pc' := 42) (xst_of (i := (.iconst 1)) (len := 1) rfl rfl (x_ico (v := 1) (by decide))) ?_
      refine y_next (pc' := 43) (xst_of (i := .iadd) (len := 1) rfl rfl rfl) ?_
      refine z_pI (t := l0) (k := 6) rfl rfl rfl rfl rfl R ok_l0 (fun h Y9 hY R => ?_)
      replace H := H Y9 hY
      clear hY
      refine y_next (pc' := 47) (xst_of (i := (.aload_n 0)) (len := 1) rfl rfl (x_aloadV (xisV_r _) e0)) ?_
      refine z_gI (t := l0) (k := 6) rfl rfl rfl R ok_l0 ?_
      refine y_next (pc' := 51) (xst_of (i := (.iconst 1)) (len := 1) rfl rfl (x_ico (v := 1) (by decide))) ?_
      refine y_next (pc' := 52) (xst_of (i := .isub) (len := 1) rfl rfl rfl) ?_
      exact y_ret (xst_of (i := .ireturn) (len := 1) rfl rfl rfl) ⟨_, _, _, rfl, R, hle6, H⟩
theorem l_50_17 {V : xV} {g : xG} {Y : xW} {l0 : xT} {l1 : Int32} {Q : Int32 → xG → xW → Prop} (H : Q (-1) g Y) : L_50_17 V g Y l0 l1 Q := by
  intro h lv R e0 e1 ok_l0
  refine y_next (pc' := 18) (xst_of (i := (.iconst (-1))) (len := 1) rfl rfl (x_ico (v := (-1)) (by decide))) ?_
  exact y_ret (xst_of (i := .ireturn) (len := 1) rfl rfl rfl) ⟨_, _, _, rfl, R, xle_r, H⟩
theorem l_51_0 {V : xV} {g : xG} {Y : xW} {l0 : xT} {l1 : Int32} {l2 : xT} {l3 : xT} {Q : Int32 → xG → xW → Prop} (H : (((fI Y l0 7) < 8) → ∃ i1 k2, g.1 (3, i1, k2) = false ∧ ∀ (g3 : xG) (Y5 : xW), xle g g3 → (∀ t, g3.1 t = true ↔ g.1 t = true ∨ t = (3, i1, k2)) → Y5 = (uR (uR (uI (uC Y ((fC Y).1 + 1, (fC Y).2.1 + 1, (fC Y).2.2 + 3)) (3, i1, k2) 0 l1) (3, i1, k2) 1 0 (some l2)) (3, i1, k2) 2 0 (some l3)) → vp_in (fI Y l0 7) 8 ∧ ∀ Y6, Y6 = uR Y5 l0 4 (Int32.toNatClampNeg (fI Y l0 7)) (some (3, i1, k2)) → ∀ Y7, Y7 = uI Y6 l0 7 ((fI Y6 l0 7) + 1) → Q ((fI Y7 l0 7) - 1) g3 Y7) ∧ (¬ ((fI Y l0 7) < 8) → Q (-1) g Y)) : L_51_0 V g Y l0 l1 l2 l3 Q := by
  intro h lv R e0 e1 e2 e3 ok_l0 ok_l2 ok_l3
  refine y_next (pc' := 1) (xst_of (i := (.aload_n 0)) (len := 1) rfl rfl (x_aloadV (xisV_r _) e0)) ?_
  refine z_gI (t := l0) (k := 7) rfl rfl rfl R ok_l0 ?_
  refine y_next (pc' := 6) (xst_of (i := (.bipush 8)) (len := 2) rfl rfl (x_bip (v := 8) (by decide))) ?_
  by_cases hc : (fI Y l0 7) < 8
  · replace H := H.1 hc
    refine y_next (xst_of (i := (.if_icmp .lt 5)) (len := 3) rfl rfl (xt_icmp_lt (t := 11) rfl hc)) ?_
    refine y_next (pc' := 12) (xst_of (i := (.aload_n 0)) (len := 1) rfl rfl (x_aloadV (xisV_r _) e0)) ?_
    refine z_gA (t := l0) (k := 4) rfl rfl rfl R ok_l0 ?_
    refine y_next (pc' := 16) (xst_of (i := (.aload_n 0)) (len := 1) rfl rfl (x_aloadV (xisV_r _) e0)) ?_
    refine z_gI (t := l0) (k := 7) rfl rfl rfl R ok_l0 ?_
    refine c_new (ci := 3) (n := 3) (e := .inr (3, [.int 0, .null, .null])) (r := 0) (L' := [.inr (3, [.int 0, .null, .null])]) rfl rfl rfl (cs_0 R) rfl rfl rfl rfl (fun h' S => ?_)
    refine y_next (pc' := 23) (xst_of (i := .dup) (len := 1) rfl rfl (x_dup rfl)) ?_
    refine y_next (pc' := 24) (xst_of (i := (.iload_n 1)) (len := 1) rfl rfl (x_ilo e1)) ?_
    refine y_next (pc' := 25) (xst_of (i := (.aload_n 2)) (len := 1) rfl rfl (x_aloadV (xisV_r _) e2)) ?_
    refine y_next (pc' := 26) (xst_of (i := (.aload_n 3)) (len := 1) rfl rfl (x_aloadV (xisV_r _) e3)) ?_
    refine c_call (k := 28) (i := (.invokespecial 83)) (as := [.ref h.2.1, .int l1, .ref (g.2 l2 0), .ref (g.2 l3 0)]) (rest := [.ref h.2.1, .int (fI Y l0 7), .ref (g.2 l0 5)]) (A := []) (B := [.inr (3, [.int 0, .null, .null])]) (B' := [.inr (3, [.int l1, .ref (g.2 l2 0), .ref (g.2 l3 0)])]) (a := 0) (L' := [.inr (3, [.int l1, .ref (g.2 l2 0), .ref (g.2 l3 0)])]) rfl rfl rfl S rfl rfl (fun Q S K => ct_28 S K) rfl (fun h1 S => ?_)
    obtain ⟨i1, k2, ht0, H⟩ := H
    have hC := R.2.2.2.2.2.2.1.1
    obtain ⟨g3, R1, hle4, hal, had⟩ := mk_3 (i := i1) (k := k2) R S ht0 ok_l2 ok_l3 rfl rfl
    rw [hC] at R1
    obtain ⟨Y5, hY⟩ : ∃ z, z = (uR (uR (uI (uC Y ((fC Y).1 + 1, (fC Y).2.1 + 1, (fC Y).2.2 + 3)) (3, i1, k2) 0 l1) (3, i1, k2) 1 0 (some l2)) (3, i1, k2) 2 0 (some l3)) := ⟨_, rfl⟩
    replace R1 : RC V g3 h1 Y5 := by rw [hY]; exact R1
    replace H := H g3 Y5 hle4 hal hY
    rw [← had]
    have ok_g3 : xok g3 (3, i1, k2) 3 := ⟨(hal _).mpr (Or.inr rfl), rfl⟩
    replace e0 := e0.trans (mv_O hle4 ok_l0 0)
    replace e2 := e2.trans (mv_O hle4 ok_l2 0)
    replace e3 := e3.trans (mv_O hle4 ok_l3 0)
    rw [xle_ad hle4 ok_l0 5]
    have ok_l0 := xle_ok hle4 ok_l0
    have ok_l2 := xle_ok hle4 ok_l2
    have ok_l3 := xle_ok hle4 ok_l3
    clear R
    have R := R1
    clear R1
    refine z_sR (t := l0) (k := 4) (m := 2) (n := 8) (i := (fI Y l0 7)) rfl rfl rfl rfl rfl rfl R ok_l0 ok_g3 H.1 (fun h Y6 hY R => ?_)
    replace H := H.2 Y6 hY
    clear hY
    refine y_next (pc' := 31) (xst_of (i := (.aload_n 0)) (len := 1) rfl rfl (x_aloadV (xisV_r _) e0)) ?_
    refine y_next (pc' := 32) (xst_of (i := .dup) (len := 1) rfl rfl (x_dup rfl)) ?_
    refine z_gI (t := l0) (k := 7) rfl rfl rfl R ok_l0 ?_
    refine y_next (pc' := 36) (xst_of (i := (.iconst 1)) (len := 1) rfl rfl (x_ico (v := 1) (by decide))) ?_
    refine y_next (pc' := 37) (xst_of (i := .iadd) (len := 1) rfl rfl rfl) ?_
    refine z_pI (t := l0) (k := 7) rfl rfl rfl rfl rfl R ok_l0 (fun h Y7 hY R => ?_)
    replace H := H Y7 hY
    clear hY
    refine y_next (pc' := 41) (xst_of (i := (.aload_n 0)) (len := 1) rfl rfl (x_aloadV (xisV_r _) e0)) ?_
    refine z_gI (t := l0) (k := 7) rfl rfl rfl R ok_l0 ?_
    refine y_next (pc' := 45) (xst_of (i := (.iconst 1)) (len := 1) rfl rfl (x_ico (v := 1) (by decide))) ?_
    refine y_next (pc' := 46) (xst_of (i := .isub) (len := 1) rfl rfl rfl) ?_
    exact y_ret (xst_of (i := .ireturn) (len := 1) rfl rfl rfl) ⟨_, _, _, rfl, R, hle4, H⟩
  · replace H := H.2 hc
    refine y_next (pc' := 9) (xst_of (i := (.if_icmp .lt 5)) (len := 3) rfl rfl (xf_icmp_lt (t := 11) rfl hc)) ?_
    refine y_next (pc' := 10) (xst_of (i := (.iconst (-1))) (len := 1) rfl rfl (x_ico (v := (-1)) (by decide))) ?_
    exact y_ret (xst_of (i := .ireturn) (len := 1) rfl rfl rfl) ⟨_, _, _, rfl, R, xle_r, H⟩
theorem l_88_0 {V : xV} {g : xG} {Y : xW} {l1 : Int32} {Q : Int32 → xG → xW → Prop} (H : ∀ o1, o1 = fR Y (9, 0, 0) 2 0 → (o1 = none → ((24 ≤ (fI Y (9, 0, 0) 1)) → L_88_28 V g Y l1 Q) ∧ (¬ (24 ≤ (fI Y (9, 0, 0) 1)) → ((l1 < 1) → L_88_28 V g Y l1 Q) ∧ (¬ (l1 < 1) → ((l1 ≤ 1024) → ∃ i3, g.1 (5, i3, 0) = false ∧ g.1 (0, i3, 0) = false ∧ g.1 (20, i3, 0) = false ∧ ∀ (g5 : xG) (Y7 : xW), xle g g5 → (∀ t, g5.1 t = true ↔ g.1 t = true ∨ t = (5, i3, 0) ∨ t = (0, i3, 0) ∨ t = (20, i3, 0)) → Y7 = (uR (uI (uI (uI (uC Y ((fC Y).1 + 10, (fC Y).2.1 + 1 + 1 + 1 + 1 + 1 + 1 + 1 + 1 + 1 + 1, (fC Y).2.2 + 10 + 200 + 200 + 8 + 8 + 3 + 3 + 8 + 8 + 8)) (5, i3, 0) 0 l1) (5, i3, 0) 6 1) (5, i3, 0) 9 (-1)) (5, i3, 0) 3 0 (some (0, i3, 0))) → ∀ Y8, Y8 = uR Y7 (9, 0, 0) 2 0 (some (5, i3, 0)) → ∀ o9, o9 = fR Y8 (9, 0, 0) 2 0 → ∃ u10, o9 = some u10 ∧ vp_in (fI Y8 (9, 0, 0) 1) 24 ∧ ∀ Y11, Y11 = uR Y8 (9, 0, 0) 0 (Int32.toNatClampNeg (fI Y8 (9, 0, 0) 1)) (some u10) → ∀ Y12, Y12 = uI Y11 (9, 0, 0) 1 ((fI Y11 (9, 0, 0) 1) + 1) → Q ((fI Y12 (9, 0, 0) 1) - 1) g5 Y12) ∧ (¬ (l1 ≤ 1024) → L_88_28 V g Y l1 Q)))) ∧ (∀ u2, o1 = some u2 → L_88_28 V g Y l1 Q)) : L_88_0 V g Y l1 Q := by
  intro h lv R e0 e1
  refine y_next (pc' := 1) (xst_of (i := (.aload_n 0)) (len := 1) rfl rfl (x_aloadV (xisV_r _) e0)) ?_
  refine z_gR (t := (9, 0, 0)) (k := 2) rfl rfl rfl R (rc_9 R) rfl (fun o1 ho ok_o1 => ?_)
  replace H := H o1 ho
  clear ho
  rcases o1 with _ | u2
  · replace H := H.1 rfl
    refine y_next (pc' := 7) (xst_of (i := (.ifnonnull 24)) (len := 3) rfl rfl rfl) ?_
    refine y_next (pc' := 8) (xst_of (i := (.aload_n 0)) (len := 1) rfl rfl (x_aloadV (xisV_r _) e0)) ?_
    refine z_gI (t := (9, 0, 0)) (k := 1) rfl rfl rfl R (rc_9 R) ?_
    refine y_next (pc' := 13) (xst_of (i := (.bipush 24)) (len := 2) rfl rfl (x_bip (v := 24) (by decide))) ?_
    by_cases hc : 24 ≤ (fI Y (9, 0, 0) 1)
    · replace H := H.1 hc
      refine y_next (xst_of (i := (.if_icmp .ge 15)) (len := 3) rfl rfl (xt_icmp_ge (t := 28) rfl hc)) ?_
      exact H _ _ R e0 e1
    · replace H := H.2 hc
      refine y_next (pc' := 16) (xst_of (i := (.if_icmp .ge 15)) (len := 3) rfl rfl (xf_icmp_ge (t := 28) rfl hc)) ?_
      refine y_next (pc' := 17) (xst_of (i := (.iload_n 1)) (len := 1) rfl rfl (x_ilo e1)) ?_
      refine y_next (pc' := 18) (xst_of (i := (.iconst 1)) (len := 1) rfl rfl (x_ico (v := 1) (by decide))) ?_
      by_cases hc : l1 < 1
      · replace H := H.1 hc
        refine y_next (xst_of (i := (.if_icmp .lt 10)) (len := 3) rfl rfl (xt_icmp_lt (t := 28) rfl hc)) ?_
        exact H _ _ R e0 e1
      · replace H := H.2 hc
        refine y_next (pc' := 21) (xst_of (i := (.if_icmp .lt 10)) (len := 3) rfl rfl (xf_icmp_lt (t := 28) rfl hc)) ?_
        refine y_next (pc' := 22) (xst_of (i := (.iload_n 1)) (len := 1) rfl rfl (x_ilo e1)) ?_
        refine y_next (pc' := 25) (xst_of (i := (.sipush 1024)) (len := 3) rfl rfl (x_sip (v := 1024) (by decide))) ?_
        by_cases hc : l1 ≤ 1024
        · replace H := H.1 hc
          refine y_next (xst_of (i := (.if_icmp .le 5)) (len := 3) rfl rfl (xt_icmp_le (t := 30) rfl hc)) ?_
          refine y_next (pc' := 31) (xst_of (i := (.aload_n 0)) (len := 1) rfl rfl (x_aloadV (xisV_r _) e0)) ?_
          refine c_new (ci := 5) (n := 10) (e := .inr (5, [.int 0, .null, .null, .null, .null, .int 0, .int 0, .int 0, .int 0, .int 0])) (r := 0) (L' := [.inr (5, [.int 0, .null, .null, .null, .null, .int 0, .int 0, .int 0, .int 0, .int 0])]) rfl rfl rfl (cs_0 R) rfl rfl rfl rfl (fun h' S => ?_)
          refine y_next (pc' := 35) (xst_of (i := .dup) (len := 1) rfl rfl (x_dup rfl)) ?_
          refine y_next (pc' := 36) (xst_of (i := (.iload_n 1)) (len := 1) rfl rfl (x_ilo e1)) ?_
          refine c_call (k := 41) (i := (.invokespecial 53)) (as := [.ref h.2.1, .int l1]) (rest := [.ref h.2.1, .ref (g.2 (9, 0, 0) 0)]) (A := []) (B := [.inr (5, [.int 0, .null, .null, .null, .null, .int 0, .int 0, .int 0, .int 0, .int 0])]) (B' := [.inr (5, [.int l1, .ref ((h.2.1 + 0) + 1), .ref ((h.2.1 + 0) + 2), .ref ((h.2.1 + 0) + 3), .ref ((h.2.1 + 0) + 4), .int 0, .int 1, .int 0, .int 0, .int (-1)]), .inl (0, 200, .inl (fun _ => 0)), .inl (4, 200, .inr (.inr (.inr (.inr (fun _ => none))))), .inl (3, 8, .inr (.inr (.inr (.inr (va_up (fun _ => none) 0 (some ((h.2.1 + 0) + 5))))))), .inl (5, 8, .inr (.inr (.inr (.inr (fun _ => none))))), .inr (0, [.int 0, .ref ((h.2.1 + 0) + 6), .int 0]), .inr (8, [.ref ((h.2.1 + 0) + 7), .ref ((h.2.1 + 0) + 8), .ref ((h.2.1 + 0) + 9)]), .inl (0, 8, .inl (fun _ => 0)), .inl (0, 8, .inl (fun _ => 0)), .inl (0, 8, .inl (fun _ => 0))]) (a := 0) (L' := [.inr (5, [.int l1, .ref (h.2.1 + 1), .ref (h.2.1 + 2), .ref (h.2.1 + 3), .ref (h.2.1 + 4), .int 0, .int 1, .int 0, .int 0, .int (-1)]), .inl (0, 200, .inl (fun _ => 0)), .inl (4, 200, .inr (.inr (.inr (.inr (fun _ => none))))), .inl (3, 8, .inr (.inr (.inr (.inr (va_up (fun _ => none) 0 (some (h.2.1 + 5))))))), .inl (5, 8, .inr (.inr (.inr (.inr (fun _ => none))))), .inr (0, [.int 0, .ref (h.2.1 + 6), .int 0]), .inr (8, [.ref (h.2.1 + 7), .ref (h.2.1 + 8), .ref (h.2.1 + 9)]), .inl (0, 8, .inl (fun _ => 0)), .inl (0, 8, .inl (fun _ => 0)), .inl (0, 8, .inl (fun _ => 0))]) rfl rfl rfl S rfl rfl (fun Q S K => ct_41 S K) rfl (fun h1 S => ?_)
          obtain ⟨i3, ht0, ht1, ht2, H⟩ := H
          have hC := R.2.2.2.2.2.2.1.1
          obtain ⟨g5, R1, hle6, hal, had⟩ := mk_5 (i := i3) R S ht0 ht1 ht2
          rw [hC] at R1
          obtain ⟨Y7, hY⟩ : ∃ z, z = (uR (uI (uI (uI (uC Y ((fC Y).1 + 10, (fC Y).2.1 + 1 + 1 + 1 + 1 + 1 + 1 + 1 + 1 + 1 + 1, (fC Y).2.2 + 10 + 200 + 200 + 8 + 8 + 3 + 3 + 8 + 8 + 8)) (5, i3, 0) 0 l1) (5, i3, 0) 6 1) (5, i3, 0) 9 (-1)) (5, i3, 0) 3 0 (some (0, i3, 0))) := ⟨_, rfl⟩
          replace R1 : RC V g5 h1 Y7 := by rw [hY]; exact R1
          replace H := H g5 Y7 hle6 hal hY
          rw [← had]
          have ok_g5 : xok g5 (5, i3, 0) 5 := ⟨(hal _).mpr (Or.inr (Or.inl rfl)), rfl⟩
          replace e0 := e0.trans (mv_O hle6 (rc_9 R) 0)
          rw [xle_ad hle6 (rc_9 R) 0]
          clear R
          have R := R1
          clear R1
          refine z_pR (t := (9, 0, 0)) (k := 2) (o := (some (5, i3, 0))) rfl rfl rfl rfl rfl rfl rfl R (rc_9 R) (ok_s ok_g5) (fun h Y8 hY R => ?_)
          replace H := H Y8 hY
          clear hY
          refine y_next (pc' := 43) (xst_of (i := (.aload_n 0)) (len := 1) rfl rfl (x_aloadV (xisV_r _) e0)) ?_
          refine z_gA (t := (9, 0, 0)) (k := 0) rfl rfl rfl R (rc_9 R) ?_
          refine y_next (pc' := 47) (xst_of (i := (.aload_n 0)) (len := 1) rfl rfl (x_aloadV (xisV_r _) e0)) ?_
          refine z_gI (t := (9, 0, 0)) (k := 1) rfl rfl rfl R (rc_9 R) ?_
          refine y_next (pc' := 51) (xst_of (i := (.aload_n 0)) (len := 1) rfl rfl (x_aloadV (xisV_r _) e0)) ?_
          refine z_gR (t := (9, 0, 0)) (k := 2) rfl rfl rfl R (rc_9 R) rfl (fun o9 ho ok_o9 => ?_)
          replace H := H o9 ho
          clear ho
          obtain ⟨u10, hn, H⟩ := H
          subst hn
          have ok_u10 := ok_o9 u10 rfl
          refine z_sR (t := (9, 0, 0)) (k := 0) (m := 4) (n := 24) (i := (fI Y8 (9, 0, 0) 1)) rfl rfl rfl rfl rfl rfl R (rc_9 R) ok_u10 H.1 (fun h Y11 hY R => ?_)
          replace H := H.2 Y11 hY
          clear hY
          refine y_next (pc' := 56) (xst_of (i := (.aload_n 0)) (len := 1) rfl rfl (x_aloadV (xisV_r _) e0)) ?_
          refine y_next (pc' := 57) (xst_of (i := .dup) (len := 1) rfl rfl (x_dup rfl)) ?_
          refine z_gI (t := (9, 0, 0)) (k := 1) rfl rfl rfl R (rc_9 R) ?_
          refine y_next (pc' := 61) (xst_of (i := (.iconst 1)) (len := 1) rfl rfl (x_ico (v := 1) (by decide))) ?_
          refine y_next (pc' := 62) (xst_of (i := .iadd) (len := 1) rfl rfl rfl) ?_
          refine z_pI (t := (9, 0, 0)) (k := 1) rfl rfl rfl rfl rfl R (rc_9 R) (fun h Y12 hY R => ?_)
          replace H := H Y12 hY
          clear hY
          refine y_next (pc' := 66) (xst_of (i := (.aload_n 0)) (len := 1) rfl rfl (x_aloadV (xisV_r _) e0)) ?_
          refine z_gI (t := (9, 0, 0)) (k := 1) rfl rfl rfl R (rc_9 R) ?_
          refine y_next (pc' := 70) (xst_of (i := (.iconst 1)) (len := 1) rfl rfl (x_ico (v := 1) (by decide))) ?_
          refine y_next (pc' := 71) (xst_of (i := .isub) (len := 1) rfl rfl rfl) ?_
          exact y_ret (xst_of (i := .ireturn) (len := 1) rfl rfl rfl) ⟨_, _, _, rfl, R, hle6, H⟩
        · replace H := H.2 hc
          refine y_next (pc' := 28) (xst_of (i := (.if_icmp .le 5)) (len := 3) rfl rfl (xf_icmp_le (t := 30) rfl hc)) ?_
          exact H _ _ R e0 e1
  · replace H := H.2 u2 rfl
    have ok_u2 := ok_o1 u2 rfl
    refine y_next (pc' := 28) (xst_of (i := (.ifnonnull 24)) (len := 3) rfl rfl rfl) ?_
    exact H _ _ R e0 e1
theorem l_88_28 {V : xV} {g : xG} {Y : xW} {l1 : Int32} {Q : Int32 → xG → xW → Prop} (H : Q (-1) g Y) : L_88_28 V g Y l1 Q := by
  intro h lv R e0 e1
  refine y_next (pc' := 29) (xst_of (i := (.iconst (-1))) (len := 1) rfl rfl (x_ico (v := (-1)) (by decide))) ?_
  exact y_ret (xst_of (i := .ireturn) (len := 1) rfl rfl rfl) ⟨_, _, _, rfl, R, xle_r, H⟩
theorem l_90_0 {V : xV} {g : xG} {Y : xW} {l1 : Int32} {l2 : Int32} {Q : Int32 → xG → xW → Prop} (H : ∀ o1, o1 = fR Y (9, 0, 0) 2 0 → (o1 = none → L_90_23 V g Y l1 l2 Q) ∧ (∀ u2, o1 = some u2 → ∀ o3, o3 = fR Y (9, 0, 0) 2 0 → ∃ u4, o3 = some u4 ∧ L_49_0 V g Y u4 l1 l2 (fun x6 g7 Y5 => ((x6 = 0) → L_90_23 V g7 Y5 l1 l2 Q) ∧ (¬ (x6 = 0) → L_90_24 V g7 Y5 l1 l2 1 Q)))) : L_90_0 V g Y l1 l2 Q := by
  intro h lv R e0 e1 e2
  refine y_next (pc' := 1) (xst_of (i := (.aload_n 0)) (len := 1) rfl rfl (x_aloadV (xisV_r _) e0)) ?_
  refine z_gR (t := (9, 0, 0)) (k := 2) rfl rfl rfl R (rc_9 R) rfl (fun o1 ho ok_o1 => ?_)
  replace H := H o1 ho
  clear ho
  rcases o1 with _ | u2
  · replace H := H.1 rfl
    refine y_next (pc' := 23) (xst_of (i := (.ifnull 19)) (len := 3) rfl rfl rfl) ?_
    exact H _ _ R e0 e1 e2
  · replace H := H.2 u2 rfl
    have ok_u2 := ok_o1 u2 rfl
    refine y_next (pc' := 7) (xst_of (i := (.ifnull 19)) (len := 3) rfl rfl rfl) ?_
    refine y_next (pc' := 8) (xst_of (i := (.aload_n 0)) (len := 1) rfl rfl (x_aloadV (xisV_r _) e0)) ?_
    refine z_gR (t := (9, 0, 0)) (k := 2) rfl rfl rfl R (rc_9 R) rfl (fun o3 ho ok_o3 => ?_)
    replace H := H o3 ho
    clear ho
    refine y_next (pc' := 12) (xst_of (i := (.iload_n 1)) (len := 1) rfl rfl (x_ilo e1)) ?_
    refine y_next (pc' := 13) (xst_of (i := (.iload_n 2)) (len := 1) rfl rfl (x_ilo e2)) ?_
    obtain ⟨u4, hn, H⟩ := H
    subst hn
    have ok_u4 := ok_o3 u4 rfl
    refine z_cG (k := 49) (i := (.invokevirtual 67)) (as := [.ref (g.2 u4 0), .int l1, .int l2]) (rest := []) rfl rfl (x_callv rfl rfl (rc_ob R ok_u4 rfl) rfl rfl) (H _ _ R rfl rfl rfl ok_u4) (fun x6 h g7 Y5 R1 hle8 H => ?_)
    replace e0 := e0.trans (mv_O hle8 (rc_9 R) 0)
    clear R
    have R := R1
    clear R1
    by_cases hc : x6 = 0
    · replace H := H.1 hc
      refine y_next (xst_of (i := (.ifCond .eq 7)) (len := 3) rfl rfl (xt_if_eq (t := 23) rfl hc)) ?_
      exact (H _ _ R e0 e1 e2).imp (lGI_le hle8)
    · replace H := H.2 hc
      refine y_next (pc' := 19) (xst_of (i := (.ifCond .eq 7)) (len := 3) rfl rfl (xf_if_eq (t := 23) rfl hc)) ?_
      refine y_next (pc' := 20) (xst_of (i := (.iconst 1)) (len := 1) rfl rfl (x_ico (v := 1) (by decide))) ?_
      refine y_next (pc' := 24) (xst_of (i := (.goto 4)) (len := 3) rfl rfl rfl) ?_
      exact (H _ _ R e0 e1 e2).imp (lGI_le hle8)
theorem l_90_23 {V : xV} {g : xG} {Y : xW} {l1 : Int32} {l2 : Int32} {Q : Int32 → xG → xW → Prop} (H : L_90_24 V g Y l1 l2 0 Q) : L_90_23 V g Y l1 l2 Q := by
  intro h lv R e0 e1 e2
  refine y_next (pc' := 24) (xst_of (i := (.iconst 0)) (len := 1) rfl rfl (x_ico (v := 0) (by decide))) ?_
  exact H _ _ R e0 e1 e2
theorem l_90_24 {V : xV} {g : xG} {Y : xW} {l1 : Int32} {l2 : Int32} {s0 : Int32} {Q : Int32 → xG → xW → Prop} (H : (s0 = 0 ∨ s0 = 1) ∧ Q s0 g Y) : L_90_24 V g Y l1 l2 s0 Q := by
  intro h lv R e0 e1 e2
  exact y_ret (xst_of (i := .ireturn) (len := 1) rfl rfl (x_zret rfl H.1)) ⟨_, _, _, rfl, R, xle_r, H.2⟩
theorem l_92_0 {V : xV} {g : xG} {Y : xW} {l1 : Int32} {Q : Int32 → xG → xW → Prop} (H : ∀ o1, o1 = fR Y (9, 0, 0) 2 0 → (o1 = none → L_92_19 V g Y l1 (-1) Q) ∧ (∀ u2, o1 = some u2 → ∀ o3, o3 = fR Y (9, 0, 0) 2 0 → ∃ u4, o3 = some u4 ∧ L_50_0 V g Y u4 l1 (fun x6 g7 Y5 => L_92_19 V g7 Y5 l1 x6 Q))) : L_92_0 V g Y l1 Q := by
  intro h lv R e0 e1
  refine y_next (pc' := 1) (xst_of (i := (.aload_n 0)) (len := 1) rfl rfl (x_aloadV (xisV_r _) e0)) ?_
  refine z_gR (t := (9, 0, 0)) (k := 2) rfl rfl rfl R (rc_9 R) rfl (fun o1 ho ok_o1 => ?_)
  replace H := H o1 ho
  clear ho
  rcases o1 with _ | u2
  · replace H := H.1 rfl
    refine y_next (pc' := 7) (xst_of (i := (.ifnonnull 7)) (len := 3) rfl rfl rfl) ?_
    refine y_next (pc' := 8) (xst_of (i := (.iconst (-1))) (len := 1) rfl rfl (x_ico (v := (-1)) (by decide))) ?_
    refine y_next (pc' := 19) (xst_of (i := (.goto 11)) (len := 3) rfl rfl rfl) ?_
    exact H _ _ R e0 e1
  · replace H := H.2 u2 rfl
    have ok_u2 := ok_o1 u2 rfl
    refine y_next (pc' := 11) (xst_of (i := (.ifnonnull 7)) (len := 3) rfl rfl rfl) ?_
    refine y_next (pc' := 12) (xst_of (i := (.aload_n 0)) (len := 1) rfl rfl (x_aloadV (xisV_r _) e0)) ?_
    refine z_gR (t := (9, 0, 0)) (k := 2) rfl rfl rfl R (rc_9 R) rfl (fun o3 ho ok_o3 => ?_)
    replace H := H o3 ho
    clear ho
    refine y_next (pc' := 16) (xst_of (i := (.iload_n 1)) (len := 1) rfl rfl (x_ilo e1)) ?_
    obtain ⟨u4, hn, H⟩ := H
    subst hn
    have ok_u4 := ok_o3 u4 rfl
    refine z_cG (k := 50) (i := (.invokevirtual 91)) (as := [.ref (g.2 u4 0), .int l1]) (rest := []) rfl rfl (x_callv rfl rfl (rc_ob R ok_u4 rfl) rfl rfl) (H _ _ R rfl rfl ok_u4) (fun x6 h g7 Y5 R1 hle8 H => ?_)
    replace e0 := e0.trans (mv_O hle8 (rc_9 R) 0)
    clear R
    have R := R1
    clear R1
    exact (H _ _ R e0 e1).imp (lGI_le hle8)
theorem l_92_19 {V : xV} {g : xG} {Y : xW} {l1 : Int32} {s0 : Int32} {Q : Int32 → xG → xW → Prop} (H : Q s0 g Y) : L_92_19 V g Y l1 s0 Q := by
  intro h lv R e0 e1
  exact y_ret (xst_of (i := .ireturn) (len := 1) rfl rfl rfl) ⟨_, _, _, rfl, R, xle_r, H⟩
theorem l_94_0 {V : xV} {g : xG} {Y : xW} {l1 : Int32} {l2 : Int32} {Q : Int32 → xG → xW → Prop} (H : L_109_0 V g Y l1 (fun o2 Y1 => ∀ o3, o3 = fR Y1 (9, 0, 0) 2 0 → (o3 = none → L_94_36 V g Y1 l1 l2 o2 Q) ∧ (∀ u4, o3 = some u4 → (o2 = none → L_94_36 V g Y1 l1 l2 none Q) ∧ (∀ u5, o2 = some u5 → ((l2 < 1) → L_94_36 V g Y1 l1 l2 (some u5) Q) ∧ (¬ (l2 < 1) → ∀ o6, o6 = fR Y1 (9, 0, 0) 2 0 → ∃ u7, o6 = some u7 ∧ (((fI Y1 u5 0) ≤ (fI Y1 u7 0)) → L_45_0 V g Y1 u5 l2 (fun o9 Y8 => L_47_0 V g Y8 u5 l2 (fun o11 Y10 => (o9 = none → L_94_72 V g Y10 l1 l2 (some u5) none o11 Q) ∧ (∀ u12, o9 = some u12 → (o11 = none → L_94_72 V g Y10 l1 l2 (some u5) (some u12) none Q) ∧ (∀ u13, o11 = some u13 → (((fI Y10 u12 2) ≤ 32) → ∀ o14, o14 = fR Y10 (9, 0, 0) 2 0 → ∃ u15, o14 = some u15 ∧ L_51_0 V g Y10 u15 l1 u12 u13 (fun x17 g18 Y16 => Q x17 g18 Y16)) ∧ (¬ ((fI Y10 u12 2) ≤ 32) → L_94_72 V g Y10 l1 l2 (some u5) (some u12) (some u13) Q)))))) ∧ (¬ ((fI Y1 u5 0) ≤ (fI Y1 u7 0)) → L_94_36 V g Y1 l1 l2 (some u5) Q)))))) : L_94_0 V g Y l1 l2 Q := by
  intro h lv R e0 e1 e2
  refine y_next (pc' := 1) (xst_of (i := (.aload_n 0)) (len := 1) rfl rfl (x_aloadV (xisV_r _) e0)) ?_
  refine y_next (pc' := 2) (xst_of (i := (.iload_n 1)) (len := 1) rfl rfl (x_ilo e1)) ?_
  refine z_cR (c := 5) (k := 109) (i := (.invokevirtual 103)) (as := [.ref (g.2 (9, 0, 0) 0), .int l1]) (rest := []) rfl rfl (x_callv rfl rfl (rc_ob R (rc_9 R) rfl) rfl rfl) (H _ _ R rfl rfl) (fun o2 h Y1 R ok_o2 H => ?_)
  refine z_as (i := (.astore_n 3)) (len := 1) (pc' := 6) (q := 3) rfl rfl rfl (by decide) (rv_V g o2) (fun lv1 hlv => ?_)
  have e0 := xs1_A hlv e0 rfl rfl
  have e1 := xs1_A hlv e1 rfl rfl
  have e2 := xs1_B hlv e2 rfl rfl
  have e3 := xs1_N hlv
  clear hlv
  refine y_next (pc' := 7) (xst_of (i := (.aload_n 0)) (len := 1) rfl rfl (x_aloadV (xisV_r _) e0)) ?_
  refine z_gR (t := (9, 0, 0)) (k := 2) rfl rfl rfl R (rc_9 R) rfl (fun o3 ho ok_o3 => ?_)
  replace H := H o3 ho
  clear ho
  rcases o3 with _ | u4
  · replace H := H.1 rfl
    refine y_next (pc' := 36) (xst_of (i := (.ifnull 26)) (len := 3) rfl rfl rfl) ?_
    exact H _ _ R e0 e1 e2 e3 ok_o2
  · replace H := H.2 u4 rfl
    have ok_u4 := ok_o3 u4 rfl
    refine y_next (pc' := 13) (xst_of (i := (.ifnull 26)) (len := 3) rfl rfl rfl) ?_
    refine y_next (pc' := 14) (xst_of (i := (.aload_n 3)) (len := 1) rfl rfl (x_aloadV (rv_V g o2) e3)) ?_
    rcases o2 with _ | u5
    · replace H := H.1 rfl
      refine y_next (pc' := 36) (xst_of (i := (.ifnull 22)) (len := 3) rfl rfl rfl) ?_
      exact H _ _ R e0 e1 e2 e3 ok_n
    · replace H := H.2 u5 rfl
      have ok_u5 := ok_o2 u5 rfl
      refine y_next (pc' := 17) (xst_of (i := (.ifnull 22)) (len := 3) rfl rfl rfl) ?_
      refine y_next (pc' := 18) (xst_of (i := (.iload_n 2)) (len := 1) rfl rfl (x_ilo e2)) ?_
      refine y_next (pc' := 19) (xst_of (i := (.iconst 1)) (len := 1) rfl rfl (x_ico (v := 1) (by decide))) ?_
      by_cases hc : l2 < 1
      · replace H := H.1 hc
        refine y_next (xst_of (i := (.if_icmp .lt 17)) (len := 3) rfl rfl (xt_icmp_lt (t := 36) rfl hc)) ?_
        exact H _ _ R e0 e1 e2 e3 (ok_s ok_u5)
      · replace H := H.2 hc
        refine y_next (pc' := 22) (xst_of (i := (.if_icmp .lt 17)) (len := 3) rfl rfl (xf_icmp_lt (t := 36) rfl hc)) ?_
        refine y_next (pc' := 23) (xst_of (i := (.aload_n 3)) (len := 1) rfl rfl (x_aloadV (xisV_r _) e3)) ?_
        refine z_gI (t := u5) (k := 0) rfl rfl rfl R ok_u5 ?_
        refine y_next (pc' := 27) (xst_of (i := (.aload_n 0)) (len := 1) rfl rfl (x_aloadV (xisV_r _) e0)) ?_
        refine z_gR (t := (9, 0, 0)) (k := 2) rfl rfl rfl R (rc_9 R) rfl (fun o6 ho ok_o6 => ?_)
        replace H := H o6 ho
        clear ho
        obtain ⟨u7, hn, H⟩ := H
        subst hn
        have ok_u7 := ok_o6 u7 rfl
        refine z_gI (t := u7) (k := 0) rfl rfl rfl R ok_u7 ?_
        by_cases hc : (fI Y1 u5 0) ≤ (fI Y1 u7 0)
        · replace H := H.1 hc
          refine y_next (xst_of (i := (.if_icmp .le 5)) (len := 3) rfl rfl (xt_icmp_le (t := 38) rfl hc)) ?_
          refine y_next (pc' := 39) (xst_of (i := (.aload_n 3)) (len := 1) rfl rfl (x_aloadV (xisV_r _) e3)) ?_
          refine y_next (pc' := 40) (xst_of (i := (.iload_n 2)) (len := 1) rfl rfl (x_ilo e2)) ?_
          refine z_cR (c := 0) (k := 45) (i := (.invokevirtual 94)) (as := [.ref (g.2 u5 0), .int l2]) (rest := []) rfl rfl (x_callv rfl rfl (rc_ob R ok_u5 rfl) rfl rfl) (H _ _ R rfl rfl ok_u5) (fun o9 h Y8 R ok_o9 H => ?_)
          refine z_as (i := (.astore 4)) (len := 2) (pc' := 45) (q := 4) rfl rfl rfl (by decide) (rv_V g o9) (fun lv2 hlv => ?_)
          have e0 := xs1_A hlv e0 rfl rfl
          have e1 := xs1_A hlv e1 rfl rfl
          have e2 := xs1_A hlv e2 rfl rfl
          have e3 := xs1_B hlv e3 rfl rfl
          have e4 := xs1_N hlv
          clear hlv
          refine y_next (pc' := 46) (xst_of (i := (.aload_n 3)) (len := 1) rfl rfl (x_aloadV (xisV_r _) e3)) ?_
          refine y_next (pc' := 47) (xst_of (i := (.iload_n 2)) (len := 1) rfl rfl (x_ilo e2)) ?_
          refine z_cR (c := 2) (k := 47) (i := (.invokevirtual 110)) (as := [.ref (g.2 u5 0), .int l2]) (rest := []) rfl rfl (x_callv rfl rfl (rc_ob R ok_u5 rfl) rfl rfl) (H _ _ R rfl rfl ok_u5) (fun o11 h Y10 R ok_o11 H => ?_)
          refine z_as (i := (.astore 5)) (len := 2) (pc' := 52) (q := 5) rfl rfl rfl (by decide) (rv_V g o11) (fun lv3 hlv => ?_)
          have e0 := xs1_A hlv e0 rfl rfl
          have e1 := xs1_A hlv e1 rfl rfl
          have e2 := xs1_A hlv e2 rfl rfl
          have e3 := xs1_A hlv e3 rfl rfl
          have e4 := xs1_B hlv e4 rfl (rv_c g o9)
          have e5 := xs1_N hlv
          clear hlv
          refine y_next (pc' := 54) (xst_of (i := (.aload 4)) (len := 2) rfl rfl (x_aloadV (rv_V g o9) e4)) ?_
          rcases o9 with _ | u12
          · replace H := H.1 rfl
            refine y_next (pc' := 72) (xst_of (i := (.ifnull 18)) (len := 3) rfl rfl rfl) ?_
            exact H _ _ R e0 e1 e2 e3 e4 e5 (ok_s ok_u5) ok_n ok_o11
          · replace H := H.2 u12 rfl
            have ok_u12 := ok_o9 u12 rfl
            refine y_next (pc' := 57) (xst_of (i := (.ifnull 18)) (len := 3) rfl rfl rfl) ?_
            refine y_next (pc' := 59) (xst_of (i := (.aload 5)) (len := 2) rfl rfl (x_aloadV (rv_V g o11) e5)) ?_
            rcases o11 with _ | u13
            · replace H := H.1 rfl
              refine y_next (pc' := 72) (xst_of (i := (.ifnull 13)) (len := 3) rfl rfl rfl) ?_
              exact H _ _ R e0 e1 e2 e3 e4 e5 (ok_s ok_u5) (ok_s ok_u12) ok_n
            · replace H := H.2 u13 rfl
              have ok_u13 := ok_o11 u13 rfl
              refine y_next (pc' := 62) (xst_of (i := (.ifnull 13)) (len := 3) rfl rfl rfl) ?_
              refine y_next (pc' := 64) (xst_of (i := (.aload 4)) (len := 2) rfl rfl (x_aloadV (xisV_r _) e4)) ?_
              refine z_gI (t := u12) (k := 2) rfl rfl rfl R ok_u12 ?_
              refine y_next (pc' := 69) (xst_of (i := (.bipush 32)) (len := 2) rfl rfl (x_bip (v := 32) (by decide))) ?_
              by_cases hc : (fI Y10 u12 2) ≤ 32
              · replace H := H.1 hc
                refine y_next (xst_of (i := (.if_icmp .le 5)) (len := 3) rfl rfl (xt_icmp_le (t := 74) rfl hc)) ?_
                refine y_next (pc' := 75) (xst_of (i := (.aload_n 0)) (len := 1) rfl rfl (x_aloadV (xisV_r _) e0)) ?_
                refine z_gR (t := (9, 0, 0)) (k := 2) rfl rfl rfl R (rc_9 R) rfl (fun o14 ho ok_o14 => ?_)
                replace H := H o14 ho
                clear ho
                refine y_next (pc' := 79) (xst_of (i := (.iload_n 1)) (len := 1) rfl rfl (x_ilo e1)) ?_
                refine y_next (pc' := 81) (xst_of (i := (.aload 4)) (len := 2) rfl rfl (x_aloadV (xisV_r _) e4)) ?_
                refine y_next (pc' := 83) (xst_of (i := (.aload 5)) (len := 2) rfl rfl (x_aloadV (xisV_r _) e5)) ?_
                obtain ⟨u15, hn, H⟩ := H
                subst hn
                have ok_u15 := ok_o14 u15 rfl
                refine z_cG (k := 51) (i := (.invokevirtual 116)) (as := [.ref (g.2 u15 0), .int l1, .ref (g.2 u12 0), .ref (g.2 u13 0)]) (rest := []) rfl rfl (x_callv rfl rfl (rc_ob R ok_u15 rfl) rfl rfl) (H _ _ R rfl rfl rfl rfl ok_u15 ok_u12 ok_u13) (fun x17 h g18 Y16 R1 hle19 H => ?_)
                replace e0 := e0.trans (mv_O hle19 (rc_9 R) 0)
                replace e3 := e3.trans (mv_O hle19 ok_u5 0)
                replace e4 := e4.trans (mv_O hle19 ok_u12 0)
                replace e5 := e5.trans (mv_O hle19 ok_u13 0)
                have ok_u5 := xle_ok hle19 ok_u5
                have ok_u12 := xle_ok hle19 ok_u12
                have ok_u13 := xle_ok hle19 ok_u13
                clear R
                have R := R1
                clear R1
                exact y_ret (xst_of (i := .ireturn) (len := 1) rfl rfl rfl) ⟨_, _, _, rfl, R, hle19, H⟩
              · replace H := H.2 hc
                refine y_next (pc' := 72) (xst_of (i := (.if_icmp .le 5)) (len := 3) rfl rfl (xf_icmp_le (t := 74) rfl hc)) ?_
                exact H _ _ R e0 e1 e2 e3 e4 e5 (ok_s ok_u5) (ok_s ok_u12) (ok_s ok_u13)
        · replace H := H.2 hc
          refine y_next (pc' := 36) (xst_of (i := (.if_icmp .le 5)) (len := 3) rfl rfl (xf_icmp_le (t := 38) rfl hc)) ?_
          exact H _ _ R e0 e1 e2 e3 (ok_s ok_u5)
theorem l_94_36 {V : xV} {g : xG} {Y : xW} {l1 : Int32} {l2 : Int32} {l3 : Option xT} {Q : Int32 → xG → xW → Prop} (H : Q (-1) g Y) : L_94_36 V g Y l1 l2 l3 Q := by
  intro h lv R e0 e1 e2 e3 ok_l3
  refine y_next (pc' := 37) (xst_of (i := (.iconst (-1))) (len := 1) rfl rfl (x_ico (v := (-1)) (by decide))) ?_
  exact y_ret (xst_of (i := .ireturn) (len := 1) rfl rfl rfl) ⟨_, _, _, rfl, R, xle_r, H⟩
theorem l_94_72 {V : xV} {g : xG} {Y : xW} {l1 : Int32} {l2 : Int32} {l3 : Option xT} {l4 : Option xT} {l5 : Option xT} {Q : Int32 → xG → xW → Prop} (H : Q (-1) g Y) : L_94_72 V g Y l1 l2 l3 l4 l5 Q := by
  intro h lv R e0 e1 e2 e3 e4 e5 ok_l3 ok_l4 ok_l5
  refine y_next (pc' := 73) (xst_of (i := (.iconst (-1))) (len := 1) rfl rfl (x_ico (v := (-1)) (by decide))) ?_
  exact y_ret (xst_of (i := .ireturn) (len := 1) rfl rfl rfl) ⟨_, _, _, rfl, R, xle_r, H⟩
theorem l_97_0 {V : xV} {g : xG} {Y : xW} {l1 : Int32} {l2 : Int32} {Q : Int32 → xG → xW → Prop} (H : L_109_0 V g Y l1 (fun o2 Y1 => (o2 = none → Q (-1) g Y1) ∧ (∀ u3, o2 = some u3 → (((fI Y1 u3 0) ≤ l2) → L_69_0 V g Y1 l2 (fun x5 Y4 => ((x5 = (-1)) → Q (-3) g Y4) ∧ (¬ (x5 = (-1)) → ((40 ≤ (fI Y4 (6, 0, 0) 2)) → L_97_64 V g Y4 l1 l2 (some u3) x5 Q) ∧ (¬ (40 ≤ (fI Y4 (6, 0, 0) 2)) → (((fI Y4 (9, 0, 0) 6) < 300) → L_73_0 V g Y4 x5 l2 (fun Y6 => ∃ i7, g.1 (4, i7, 0) = false ∧ ∀ (g9 : xG) (Y11 : xW), xle g g9 → (∀ t, g9.1 t = true ↔ g.1 t = true ∨ t = (4, i7, 0)) → Y11 = (uI (uI (uI (uI (uC Y6 ((fC Y6).1 + 3, (fC Y6).2.1 + 1 + 1 + 1, (fC Y6).2.2 + 12 + 8 + 40)) (4, i7, 0) 0 l1) (4, i7, 0) 1 l2) (4, i7, 0) 5 l1) (4, i7, 0) 7 x5) → vp_in (fI Y6 (9, 0, 0) 6) 300 ∧ ∀ Y12, Y12 = uR Y11 (9, 0, 0) 5 (Int32.toNatClampNeg (fI Y6 (9, 0, 0) 6)) (some (4, i7, 0)) → L_61_0 V g9 Y12 (fI Y12 (9, 0, 0) 6) (fun Y13 => ∀ Y14, Y14 = uI Y13 (9, 0, 0) 6 ((fI Y13 (9, 0, 0) 6) + 1) → Q ((fI Y14 (9, 0, 0) 6) - 1) g9 Y14))) ∧ (¬ ((fI Y4 (9, 0, 0) 6) < 300) → L_97_64 V g Y4 l1 l2 (some u3) x5 Q))))) ∧ (¬ ((fI Y1 u3 0) ≤ l2) → Q (-2) g Y1)))) : L_97_0 V g Y l1 l2 Q := by
  intro h lv R e0 e1 e2
  refine y_next (pc' := 1) (xst_of (i := (.aload_n 0)) (len := 1) rfl rfl (x_aloadV (xisV_r _) e0)) ?_
  refine y_next (pc' := 2) (xst_of (i := (.iload_n 1)) (len := 1) rfl rfl (x_ilo e1)) ?_
  refine z_cR (c := 5) (k := 109) (i := (.invokevirtual 103)) (as := [.ref (g.2 (9, 0, 0) 0), .int l1]) (rest := []) rfl rfl (x_callv rfl rfl (rc_ob R (rc_9 R) rfl) rfl rfl) (H _ _ R rfl rfl) (fun o2 h Y1 R ok_o2 H => ?_)
  refine z_as (i := (.astore_n 3)) (len := 1) (pc' := 6) (q := 3) rfl rfl rfl (by decide) (rv_V g o2) (fun lv1 hlv => ?_)
  have e0 := xs1_A hlv e0 rfl rfl
  have e1 := xs1_A hlv e1 rfl rfl
  have e2 := xs1_B hlv e2 rfl rfl
  have e3 := xs1_N hlv
  clear hlv
  refine y_next (pc' := 7) (xst_of (i := (.aload_n 3)) (len := 1) rfl rfl (x_aloadV (rv_V g o2) e3)) ?_
  rcases o2 with _ | u3
  · replace H := H.1 rfl
    refine y_next (pc' := 10) (xst_of (i := (.ifnonnull 5)) (len := 3) rfl rfl rfl) ?_
    refine y_next (pc' := 11) (xst_of (i := (.iconst (-1))) (len := 1) rfl rfl (x_ico (v := (-1)) (by decide))) ?_
    exact y_ret (xst_of (i := .ireturn) (len := 1) rfl rfl rfl) ⟨_, _, _, rfl, R, xle_r, H⟩
  · replace H := H.2 u3 rfl
    have ok_u3 := ok_o2 u3 rfl
    refine y_next (pc' := 12) (xst_of (i := (.ifnonnull 5)) (len := 3) rfl rfl rfl) ?_
    refine y_next (pc' := 13) (xst_of (i := (.iload_n 2)) (len := 1) rfl rfl (x_ilo e2)) ?_
    refine y_next (pc' := 14) (xst_of (i := (.aload_n 3)) (len := 1) rfl rfl (x_aloadV (xisV_r _) e3)) ?_
    refine z_gI (t := u3) (k := 0) rfl rfl rfl R ok_u3 ?_
    by_cases hc : (fI Y1 u3 0) ≤ l2
    · replace H := H.1 hc
      refine y_next (xst_of (i := (.if_icmp .ge 6)) (len := 3) rfl rfl (xt_icmp_ge (t := 23) rfl hc)) ?_
      refine y_next (pc' := 24) (xst_of (i := (.aload_n 0)) (len := 1) rfl rfl (x_aloadV (xisV_r _) e0)) ?_
      refine z_gO (t := (9, 0, 0)) (k := 7) rfl rfl rfl R (rc_9 R) ?_
      refine y_next (pc' := 28) (xst_of (i := (.iload_n 2)) (len := 1) rfl rfl (x_ilo e2)) ?_
      refine z_cI (k := 69) (i := (.invokevirtual 155)) (as := [.ref (g.2 (7, 0, 0) 0), .int l2]) (rest := []) rfl rfl (x_callv rfl rfl (rc_ob R (rc_7 R) rfl) rfl rfl) (H _ _ R rfl rfl) (fun x5 h Y4 R H => ?_)
      refine z_is (i := (.istore 4)) (len := 2) (pc' := 33) (q := 4) rfl rfl rfl (by decide) (fun lv2 hlv => ?_)
      have e0 := xs1_A hlv e0 rfl rfl
      have e1 := xs1_A hlv e1 rfl rfl
      have e2 := xs1_A hlv e2 rfl rfl
      have e3 := xs1_B hlv e3 rfl rfl
      have e4 := xs1_N hlv
      clear hlv
      refine y_next (pc' := 35) (xst_of (i := (.iload 4)) (len := 2) rfl rfl (x_ilo e4)) ?_
      refine y_next (pc' := 36) (xst_of (i := (.iconst (-1))) (len := 1) rfl rfl (x_ico (v := (-1)) (by decide))) ?_
      by_cases hc : x5 = (-1)
      · replace H := H.1 hc
        refine y_next (pc' := 39) (xst_of (i := (.if_icmp .ne 6)) (len := 3) rfl rfl (xf_icmp_ne (t := 42) rfl (fun z => z hc))) ?_
        refine y_next (pc' := 41) (xst_of (i := (.bipush (-3))) (len := 2) rfl rfl (x_bip (v := (-3)) (by decide))) ?_
        exact y_ret (xst_of (i := .ireturn) (len := 1) rfl rfl rfl) ⟨_, _, _, rfl, R, xle_r, H⟩
      · replace H := H.2 hc
        refine y_next (xst_of (i := (.if_icmp .ne 6)) (len := 3) rfl rfl (xt_icmp_ne (t := 42) rfl hc)) ?_
        refine y_next (pc' := 43) (xst_of (i := (.aload_n 0)) (len := 1) rfl rfl (x_aloadV (xisV_r _) e0)) ?_
        refine z_gO (t := (9, 0, 0)) (k := 8) rfl rfl rfl R (rc_9 R) ?_
        refine z_gI (t := (6, 0, 0)) (k := 2) rfl rfl rfl R (rc_6 R) ?_
        refine y_next (pc' := 51) (xst_of (i := (.bipush 40)) (len := 2) rfl rfl (x_bip (v := 40) (by decide))) ?_
        by_cases hc : 40 ≤ (fI Y4 (6, 0, 0) 2)
        · replace H := H.1 hc
          refine y_next (xst_of (i := (.if_icmp .ge 13)) (len := 3) rfl rfl (xt_icmp_ge (t := 64) rfl hc)) ?_
          exact H _ _ R e0 e1 e2 e3 e4 (ok_s ok_u3)
        · replace H := H.2 hc
          refine y_next (pc' := 54) (xst_of (i := (.if_icmp .ge 13)) (len := 3) rfl rfl (xf_icmp_ge (t := 64) rfl hc)) ?_
          refine y_next (pc' := 55) (xst_of (i := (.aload_n 0)) (len := 1) rfl rfl (x_aloadV (xisV_r _) e0)) ?_
          refine z_gI (t := (9, 0, 0)) (k := 6) rfl rfl rfl R (rc_9 R) ?_
          refine y_next (pc' := 61) (xst_of (i := (.sipush 300)) (len := 3) rfl rfl (x_sip (v := 300) (by decide))) ?_
          by_cases hc : (fI Y4 (9, 0, 0) 6) < 300
          · replace H := H.1 hc
            refine y_next (xst_of (i := (.if_icmp .lt 6)) (len := 3) rfl rfl (xt_icmp_lt (t := 67) rfl hc)) ?_
            refine y_next (pc' := 68) (xst_of (i := (.aload_n 0)) (len := 1) rfl rfl (x_aloadV (xisV_r _) e0)) ?_
            refine z_gO (t := (9, 0, 0)) (k := 7) rfl rfl rfl R (rc_9 R) ?_
            refine y_next (pc' := 73) (xst_of (i := (.iload 4)) (len := 2) rfl rfl (x_ilo e4)) ?_
            refine y_next (pc' := 74) (xst_of (i := (.iload_n 2)) (len := 1) rfl rfl (x_ilo e2)) ?_
            refine z_cN (k := 73) (i := (.invokevirtual 164)) (as := [.ref (g.2 (7, 0, 0) 0), .int x5, .int l2]) (rest := []) rfl rfl (x_callv rfl rfl (rc_ob R (rc_7 R) rfl) rfl rfl) (H _ _ R rfl rfl rfl) (fun h Y6 R H => ?_)
            refine y_next (pc' := 78) (xst_of (i := (.aload_n 0)) (len := 1) rfl rfl (x_aloadV (xisV_r _) e0)) ?_
            refine z_gA (t := (9, 0, 0)) (k := 5) rfl rfl rfl R (rc_9 R) ?_
            refine y_next (pc' := 82) (xst_of (i := (.aload_n 0)) (len := 1) rfl rfl (x_aloadV (xisV_r _) e0)) ?_
            refine z_gI (t := (9, 0, 0)) (k := 6) rfl rfl rfl R (rc_9 R) ?_
            refine c_new (ci := 4) (n := 12) (e := .inr (4, [.int 0, .int 0, .null, .null, .int 0, .int 0, .int 0, .int 0, .int 0, .int 0, .int 0, .long 0])) (r := 0) (L' := [.inr (4, [.int 0, .int 0, .null, .null, .int 0, .int 0, .int 0, .int 0, .int 0, .int 0, .int 0, .long 0])]) rfl rfl rfl (cs_0 R) rfl rfl rfl rfl (fun h' S => ?_)
            refine y_next (pc' := 89) (xst_of (i := .dup) (len := 1) rfl rfl (x_dup rfl)) ?_
            refine y_next (pc' := 90) (xst_of (i := (.iload_n 1)) (len := 1) rfl rfl (x_ilo e1)) ?_
            refine y_next (pc' := 92) (xst_of (i := (.iload 4)) (len := 2) rfl rfl (x_ilo e4)) ?_
            refine y_next (pc' := 93) (xst_of (i := (.iload_n 2)) (len := 1) rfl rfl (x_ilo e2)) ?_
            refine c_call (k := 29) (i := (.invokespecial 168)) (as := [.ref h.2.1, .int l1, .int x5, .int l2]) (rest := [.ref h.2.1, .int (fI Y6 (9, 0, 0) 6), .ref (g.2 (9, 0, 0) 6)]) (A := []) (B := [.inr (4, [.int 0, .int 0, .null, .null, .int 0, .int 0, .int 0, .int 0, .int 0, .int 0, .int 0, .long 0])]) (B' := [.inr (4, [.int l1, .int l2, .ref ((h.2.1 + 0) + 1), .ref ((h.2.1 + 0) + 2), .int 0, .int l1, .int 0, .int x5, .int 0, .int 0, .int 0, .long 0]), .inl (0, 8, .inl (fun _ => 0)), .inl (0, 40, .inl (fun _ => 0))]) (a := 0) (L' := [.inr (4, [.int l1, .int l2, .ref (h.2.1 + 1), .ref (h.2.1 + 2), .int 0, .int l1, .int 0, .int x5, .int 0, .int 0, .int 0, .long 0]), .inl (0, 8, .inl (fun _ => 0)), .inl (0, 40, .inl (fun _ => 0))]) rfl rfl rfl S rfl rfl (fun Q S K => ct_29 S K) rfl (fun h1 S => ?_)
            obtain ⟨i7, ht0, H⟩ := H
            have hC := R.2.2.2.2.2.2.1.1
            obtain ⟨g9, R1, hle10, hal, had⟩ := mk_4 (i := i7) R S ht0
            rw [hC] at R1
            obtain ⟨Y11, hY⟩ : ∃ z, z = (uI (uI (uI (uI (uC Y6 ((fC Y6).1 + 3, (fC Y6).2.1 + 1 + 1 + 1, (fC Y6).2.2 + 12 + 8 + 40)) (4, i7, 0) 0 l1) (4, i7, 0) 1 l2) (4, i7, 0) 5 l1) (4, i7, 0) 7 x5) := ⟨_, rfl⟩
            replace R1 : RC V g9 h1 Y11 := by rw [hY]; exact R1
            replace H := H g9 Y11 hle10 hal hY
            rw [← had]
            have ok_g9 : xok g9 (4, i7, 0) 4 := ⟨(hal _).mpr (Or.inr rfl), rfl⟩
            replace e0 := e0.trans (mv_O hle10 (rc_9 R) 0)
            replace e3 := e3.trans (mv_O hle10 ok_u3 0)
            rw [xle_ad hle10 (rc_9 R) 6]
            have ok_u3 := xle_ok hle10 ok_u3
            clear R
            have R := R1
            clear R1
            refine z_sR (t := (9, 0, 0)) (k := 5) (m := 3) (n := 300) (i := (fI Y6 (9, 0, 0) 6)) rfl rfl rfl rfl rfl rfl R (rc_9 R) ok_g9 H.1 (fun h Y12 hY R => ?_)
            replace H := H.2 Y12 hY
            clear hY
            refine y_next (pc' := 98) (xst_of (i := (.aload_n 0)) (len := 1) rfl rfl (x_aloadV (xisV_r _) e0)) ?_
            refine z_gO (t := (9, 0, 0)) (k := 8) rfl rfl rfl R (rc_9 R) ?_
            refine y_next (pc' := 102) (xst_of (i := (.aload_n 0)) (len := 1) rfl rfl (x_aloadV (xisV_r _) e0)) ?_
            refine z_gI (t := (9, 0, 0)) (k := 6) rfl rfl rfl R (rc_9 R) ?_
            refine z_cN (k := 61) (i := (.invokevirtual 171)) (as := [.ref (g9.2 (6, 0, 0) 0), .int (fI Y12 (9, 0, 0) 6)]) (rest := []) rfl rfl (x_callv rfl rfl (rc_ob R (rc_6 R) rfl) rfl rfl) (H _ _ R rfl rfl) (fun h Y13 R H => ?_)
            refine y_next (pc' := 109) (xst_of (i := (.aload_n 0)) (len := 1) rfl rfl (x_aloadV (xisV_r _) e0)) ?_
            refine y_next (pc' := 110) (xst_of (i := .dup) (len := 1) rfl rfl (x_dup rfl)) ?_
            refine z_gI (t := (9, 0, 0)) (k := 6) rfl rfl rfl R (rc_9 R) ?_
            refine y_next (pc' := 114) (xst_of (i := (.iconst 1)) (len := 1) rfl rfl (x_ico (v := 1) (by decide))) ?_
            refine y_next (pc' := 115) (xst_of (i := .iadd) (len := 1) rfl rfl rfl) ?_
            refine z_pI (t := (9, 0, 0)) (k := 6) rfl rfl rfl rfl rfl R (rc_9 R) (fun h Y14 hY R => ?_)
            replace H := H Y14 hY
            clear hY
            refine y_next (pc' := 119) (xst_of (i := (.aload_n 0)) (len := 1) rfl rfl (x_aloadV (xisV_r _) e0)) ?_
            refine z_gI (t := (9, 0, 0)) (k := 6) rfl rfl rfl R (rc_9 R) ?_
            refine y_next (pc' := 123) (xst_of (i := (.iconst 1)) (len := 1) rfl rfl (x_ico (v := 1) (by decide))) ?_
            refine y_next (pc' := 124) (xst_of (i := .isub) (len := 1) rfl rfl rfl) ?_
            exact y_ret (xst_of (i := .ireturn) (len := 1) rfl rfl rfl) ⟨_, _, _, rfl, R, hle10, H⟩
          · replace H := H.2 hc
            refine y_next (pc' := 64) (xst_of (i := (.if_icmp .lt 6)) (len := 3) rfl rfl (xf_icmp_lt (t := 67) rfl hc)) ?_
            exact H _ _ R e0 e1 e2 e3 e4 (ok_s ok_u3)
    · replace H := H.2 hc
      refine y_next (pc' := 20) (xst_of (i := (.if_icmp .ge 6)) (len := 3) rfl rfl (xf_icmp_ge (t := 23) rfl hc)) ?_
      refine y_next (pc' := 22) (xst_of (i := (.bipush (-2))) (len := 2) rfl rfl (x_bip (v := (-2)) (by decide))) ?_
      exact y_ret (xst_of (i := .ireturn) (len := 1) rfl rfl rfl) ⟨_, _, _, rfl, R, xle_r, H⟩
theorem l_97_64 {V : xV} {g : xG} {Y : xW} {l1 : Int32} {l2 : Int32} {l3 : Option xT} {l4 : Int32} {Q : Int32 → xG → xW → Prop} (H : Q (-4) g Y) : L_97_64 V g Y l1 l2 l3 l4 Q := by
  intro h lv R e0 e1 e2 e3 e4 ok_l3
  refine y_next (pc' := 66) (xst_of (i := (.bipush (-4))) (len := 2) rfl rfl (x_bip (v := (-4)) (by decide))) ?_
  exact y_ret (xst_of (i := .ireturn) (len := 1) rfl rfl rfl) ⟨_, _, _, rfl, R, xle_r, H⟩
