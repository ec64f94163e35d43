/-! 41: RegionYard$Program.<init>(I)V -/
def B_41_0 (V : xV) (l0 : Nat) (l1 : Int32) (h : xH) (Q : xQ → xH → Prop) : Prop := ∀ lv : xL, xlk lv 0 = some (.ref l0) → xlk lv 1 = some (.int l1) → xY V 41 0 lv [] h Q
theorem b_41_0 {V : xV} {l0 : Nat} {l1 : Int32} {h : xH} {Q : xQ → xH → Prop} (H : ∀ (q1 : Nat) (h2 : xH), q1 = h.2.1 → h2 = xalc h (.inl (0, 200, .inl (fun _ => 0))) 200 → pF h2 l0 5 1 (.ref q1) (fun h3 => ∀ (q4 : Nat) (h5 : xH), q4 = h3.2.1 → h5 = xalc h3 (.inl (4, 200, .inr (.inr (.inr (.inr (fun _ => none)))))) 200 → pF h5 l0 5 2 (.ref q4) (fun h6 => ∀ (q7 : Nat) (h8 : xH), q7 = h6.2.1 → h8 = xalc h6 (.inl (3, 8, .inr (.inr (.inr (.inr (fun _ => none)))))) 8 → pF h8 l0 5 3 (.ref q7) (fun h9 => ∀ (q10 : Nat) (h11 : xH), q10 = h9.2.1 → h11 = xalc h9 (.inl (5, 8, .inr (.inr (.inr (.inr (fun _ => none)))))) 8 → pF h11 l0 5 4 (.ref q10) (fun h12 => pF h12 l0 5 8 (.int 0) (fun h13 => pF h13 l0 5 9 (.int (-1)) (fun h14 => pF h14 l0 5 0 (.int l1) (fun h15 => gV h15 l0 5 3 (fun v16 => ∀ (q17 : Nat) (h18 : xH), q17 = h15.2.1 → h18 = xalc h15 (.inr (0, [.int 0, .null, .int 0])) 3 → xY V 0 0 [(0, .ref q17), (1, .int 0)] [] h18 (fun r h19 => r = .inl none ∧ isR v16 (fun b20 => sR h19 b20 0 q17 (fun h21 => pF h21 l0 5 6 (.int 1) (fun h22 => Q (.inl none) h22))))))))))))) : B_41_0 V l0 l1 h Q := by
  intro lv e0 e1
  refine y_next (pc' := 1) (xst_of (i := (.aload_n 0)) (len := 1) rfl rfl (x_aloadV (xisV_r _) e0)) ?_
  refine y_next (pc' := 4) (xst_of (i := (.invokespecial 3)) (len := 3) rfl rfl rfl) ?_
  refine y_next (pc' := 5) (xst_of (i := (.aload_n 0)) (len := 1) rfl rfl (x_aloadV (xisV_r _) e0)) ?_
  refine y_next (pc' := 8) (xst_of (i := (.sipush 200)) (len := 3) rfl rfl (x_sip (v := 200) (by decide))) ?_
  refine y_next (pc' := 10) (h' := xalc h (.inl (0, 200, .inl (fun _ => 0))) 200) (xst_of (i := (.newarray .int)) (len := 2) rfl rfl (x_newa (N := 200) (by decide) (by decide) (Or.inl ⟨rfl, rfl, rfl⟩))) ?_
  obtain ⟨q1, hq⟩ : ∃ z, z = h.2.1 := ⟨_, rfl⟩
  obtain ⟨h2, hh⟩ : ∃ z, z = xalc h (.inl (0, 200, .inl (fun _ => 0))) 200 := ⟨_, rfl⟩
  replace H := H q1 h2 hq hh
  rw [← hq, ← hh]
  obtain ⟨fs, ea, eb, H⟩ := H
  refine y_next (pc' := 13) (xst_of (i := (.putfield 9)) (len := 3) rfl rfl (x_putf rfl ea eb rfl rfl)) ?_
  generalize xwr h2 l0 (Sum.inr (5, List.set fs 1 (.ref q1))) = h3 at H ⊢
  refine y_next (pc' := 14) (xst_of (i := (.aload_n 0)) (len := 1) rfl rfl (x_aloadV (xisV_r _) e0)) ?_
  refine y_next (pc' := 17) (xst_of (i := (.sipush 200)) (len := 3) rfl rfl (x_sip (v := 200) (by decide))) ?_
  refine y_next (pc' := 20) (h' := xalc h3 (.inl (4, 200, .inr (.inr (.inr (.inr (fun _ => none)))))) 200) (xst_of (i := (.anewarray 15)) (len := 3) rfl rfl (x_newq (N := 200) (by decide) (by decide) rfl rfl)) ?_
  obtain ⟨q4, hq⟩ : ∃ z, z = h3.2.1 := ⟨_, rfl⟩
  obtain ⟨h5, hh⟩ : ∃ z, z = xalc h3 (.inl (4, 200, .inr (.inr (.inr (.inr (fun _ => none)))))) 200 := ⟨_, rfl⟩
  replace H := H q4 h5 hq hh
  rw [← hq, ← hh]
  obtain ⟨fs, ea, eb, H⟩ := H
  refine y_next (pc' := 23) (xst_of (i := (.putfield 17)) (len := 3) rfl rfl (x_putf rfl ea eb rfl rfl)) ?_
  generalize xwr h5 l0 (Sum.inr (5, List.set fs 2 (.ref q4))) = h6 at H ⊢
  refine y_next (pc' := 24) (xst_of (i := (.aload_n 0)) (len := 1) rfl rfl (x_aloadV (xisV_r _) e0)) ?_
  refine y_next (pc' := 26) (xst_of (i := (.bipush 8)) (len := 2) rfl rfl (x_bip (v := 8) (by decide))) ?_
  refine y_next (pc' := 29) (h' := xalc h6 (.inl (3, 8, .inr (.inr (.inr (.inr (fun _ => none)))))) 8) (xst_of (i := (.anewarray 21)) (len := 3) rfl rfl (x_newq (N := 8) (by decide) (by decide) rfl rfl)) ?_
  obtain ⟨q7, hq⟩ : ∃ z, z = h6.2.1 := ⟨_, rfl⟩
  obtain ⟨h8, hh⟩ : ∃ z, z = xalc h6 (.inl (3, 8, .inr (.inr (.inr (.inr (fun _ => none)))))) 8 := ⟨_, rfl⟩
  replace H := H q7 h8 hq hh
  rw [← hq, ← hh]
  obtain ⟨fs, ea, eb, H⟩ := H
  refine y_next (pc' := 32) (xst_of (i := (.putfield 23)) (len := 3) rfl rfl (x_putf rfl ea eb rfl rfl)) ?_
  generalize xwr h8 l0 (Sum.inr (5, List.set fs 3 (.ref q7))) = h9 at H ⊢
  refine y_next (pc' := 33) (xst_of (i := (.aload_n 0)) (len := 1) rfl rfl (x_aloadV (xisV_r _) e0)) ?_
  refine y_next (pc' := 35) (xst_of (i := (.bipush 8)) (len := 2) rfl rfl (x_bip (v := 8) (by decide))) ?_
  refine y_next (pc' := 38) (h' := xalc h9 (.inl (5, 8, .inr (.inr (.inr (.inr (fun _ => none)))))) 8) (xst_of (i := (.anewarray 27)) (len := 3) rfl rfl (x_newq (N := 8) (by decide) (by decide) rfl rfl)) ?_
  obtain ⟨q10, hq⟩ : ∃ z, z = h9.2.1 := ⟨_, rfl⟩
  obtain ⟨h11, hh⟩ : ∃ z, z = xalc h9 (.inl (5, 8, .inr (.inr (.inr (.inr (fun _ => none)))))) 8 := ⟨_, rfl⟩
  replace H := H q10 h11 hq hh
  rw [← hq, ← hh]
  obtain ⟨fs, ea, eb, H⟩ := H
  refine y_next (pc' := 41) (xst_of (i := (.putfield 29)) (len := 3) rfl rfl (x_putf rfl ea eb rfl rfl)) ?_
  generalize xwr h11 l0 (Sum.inr (5, List.set fs 4 (.ref q10))) = h12 at H ⊢
  refine y_next (pc' := 42) (xst_of (i := (.aload_n 0)) (len := 1) rfl rfl (x_aloadV (xisV_r _) e0)) ?_
  refine y_next (pc' := 43) (xst_of (i := (.iconst 0)) (len := 1) rfl rfl (x_ico (v := 0) (by decide))) ?_
  obtain ⟨fs, ea, eb, H⟩ := H
  refine y_next (pc' := 46) (xst_of (i := (.putfield 33)) (len := 3) rfl rfl (x_putf rfl ea eb rfl rfl)) ?_
  generalize xwr h12 l0 (Sum.inr (5, List.set fs 8 (.int 0))) = h13 at H ⊢
  refine y_next (pc' := 47) (xst_of (i := (.aload_n 0)) (len := 1) rfl rfl (x_aloadV (xisV_r _) e0)) ?_
  refine y_next (pc' := 48) (xst_of (i := (.iconst (-1))) (len := 1) rfl rfl (x_ico (v := (-1)) (by decide))) ?_
  obtain ⟨fs, ea, eb, H⟩ := H
  refine y_next (pc' := 51) (xst_of (i := (.putfield 37)) (len := 3) rfl rfl (x_putf rfl ea eb rfl rfl)) ?_
  generalize xwr h13 l0 (Sum.inr (5, List.set fs 9 (.int (-1)))) = h14 at H ⊢
  refine y_next (pc' := 52) (xst_of (i := (.aload_n 0)) (len := 1) rfl rfl (x_aloadV (xisV_r _) e0)) ?_
  refine y_next (pc' := 53) (xst_of (i := (.iload_n 1)) (len := 1) rfl rfl (x_ilo e1)) ?_
  obtain ⟨fs, ea, eb, H⟩ := H
  refine y_next (pc' := 56) (xst_of (i := (.putfield 40)) (len := 3) rfl rfl (x_putf rfl ea eb rfl rfl)) ?_
  generalize xwr h14 l0 (Sum.inr (5, List.set fs 0 (.int l1))) = h15 at H ⊢
  refine y_next (pc' := 57) (xst_of (i := (.aload_n 0)) (len := 1) rfl rfl (x_aloadV (xisV_r _) e0)) ?_
  obtain ⟨fs, v16, ea, eb, hv_v16, H⟩ := H
  refine y_next (pc' := 60) (xst_of (i := (.getfield 23)) (len := 3) rfl rfl (x_getf rfl ea eb)) ?_
  refine y_next (pc' := 61) (xst_of (i := (.iconst 0)) (len := 1) rfl rfl (x_ico (v := 0) (by decide))) ?_
  refine y_next (pc' := 64) (h' := xalc h15 (.inr (0, [.int 0, .null, .int 0])) 3) (xst_of (i := (.new 21)) (len := 3) rfl rfl rfl) ?_
  obtain ⟨q17, hq⟩ : ∃ z, z = h15.2.1 := ⟨_, rfl⟩
  obtain ⟨h18, hh⟩ : ∃ z, z = xalc h15 (.inr (0, [.int 0, .null, .int 0])) 3 := ⟨_, rfl⟩
  replace H := H q17 h18 hq hh
  rw [← hq, ← hh]
  refine y_next (pc' := 65) (xst_of (i := .dup) (len := 1) rfl rfl (x_dup rfl)) ?_
  refine y_next (pc' := 66) (xst_of (i := (.iconst 0)) (len := 1) rfl rfl (x_ico (v := 0) (by decide))) ?_
  refine y_call (xst_of (i := (.invokespecial 43)) (len := 3) rfl rfl rfl) (H.imp (fun r h19 z => ?_))
  obtain ⟨rfl, H⟩ := z
  change xY V 41 69 _ _ h19 Q
  obtain ⟨b20, hn, H⟩ := H
  subst hn
  obtain ⟨k, n, f, vs, ea, eb, ec, ed, H⟩ := H
  refine y_next (pc' := 70) (xst_of (i := .aastore) (len := 1) rfl rfl (x_aast ea eb ed)) ?_
  generalize xwr h19 b20 (.inl (k, n, .inr (.inr (.inr (.inr (va_up f (Int32.toNatClampNeg 0) (some q17))))))) = h21 at H ⊢
  refine y_next (pc' := 71) (xst_of (i := (.aload_n 0)) (len := 1) rfl rfl (x_aloadV (xisV_r _) e0)) ?_
  refine y_next (pc' := 72) (xst_of (i := (.iconst 1)) (len := 1) rfl rfl (x_ico (v := 1) (by decide))) ?_
  obtain ⟨fs, ea, eb, H⟩ := H
  refine y_next (pc' := 75) (xst_of (i := (.putfield 46)) (len := 3) rfl rfl (x_putf rfl ea eb rfl rfl)) ?_
  generalize xwr h21 l0 (Sum.inr (5, List.set fs 6 (.int 1))) = h22 at H ⊢
  exact y_ret (xst_of (i := .return_) (len := 1) rfl rfl rfl) H
theorem e_41 {V : xV} {l0 : Nat} {l1 : Int32} {h : xH} {Q : xQ → xH → Prop} (H : B_41_0 V l0 l1 h Q) : xY V 41 0 [(0, .ref l0), (1, .int l1)] [] h Q := H _ rfl rfl
/-! 42: RegionYard$Program.hasWord(I)Z -/
def B_42_0 (V : xV) (l0 : Nat) (l1 : Int32) (h : xH) (Q : xQ → xH → Prop) : Prop := ∀ lv : xL, xlk lv 0 = some (.ref l0) → xlk lv 1 = some (.int l1) → xY V 42 0 lv [] h Q
def B_42_16 (V : xV) (l0 : Nat) (l1 : Int32) (h : xH) (Q : xQ → xH → Prop) : Prop := ∀ lv : xL, xlk lv 0 = some (.ref l0) → xlk lv 1 = some (.int l1) → xY V 42 16 lv [] h Q
def B_42_17 (V : xV) (l0 : Nat) (l1 : Int32) (s0 : Int32) (h : xH) (Q : xQ → xH → Prop) : Prop := ∀ lv : xL, xlk lv 0 = some (.ref l0) → xlk lv 1 = some (.int l1) → xY V 42 17 lv [.int s0] h Q
theorem b_42_0 {V : xV} {l0 : Nat} {l1 : Int32} {h : xH} {Q : xQ → xH → Prop} (H : ((l1 < 0) → B_42_16 V l0 l1 h Q) ∧ (¬ (l1 < 0) → gI h l0 5 5 (fun x1 => ((x1 ≤ l1) → B_42_16 V l0 l1 h Q) ∧ (¬ (x1 ≤ l1) → B_42_17 V l0 l1 1 h Q)))) : B_42_0 V l0 l1 h Q := by
  intro lv e0 e1
  refine y_next (pc' := 1) (xst_of (i := (.iload_n 1)) (len := 1) rfl rfl (x_ilo e1)) ?_
  by_cases hc : l1 < 0
  · replace H := H.1 hc
    refine y_next (xst_of (i := (.ifCond .lt 15)) (len := 3) rfl rfl (xt_if_lt (t := 16) rfl hc)) ?_
    exact H _ e0 e1
  · replace H := H.2 hc
    refine y_next (pc' := 4) (xst_of (i := (.ifCond .lt 15)) (len := 3) rfl rfl (xf_if_lt (t := 16) rfl hc)) ?_
    refine y_next (pc' := 5) (xst_of (i := (.iload_n 1)) (len := 1) rfl rfl (x_ilo e1)) ?_
    refine y_next (pc' := 6) (xst_of (i := (.aload_n 0)) (len := 1) rfl rfl (x_aloadV (xisV_r _) e0)) ?_
    obtain ⟨fs, x1, ea, eb, H⟩ := H
    refine y_next (pc' := 9) (xst_of (i := (.getfield 49)) (len := 3) rfl rfl (x_getf rfl ea eb)) ?_
    by_cases hc : x1 ≤ l1
    · replace H := H.1 hc
      refine y_next (xst_of (i := (.if_icmp .ge 7)) (len := 3) rfl rfl (xt_icmp_ge (t := 16) rfl hc)) ?_
      exact H _ e0 e1
    · replace H := H.2 hc
      refine y_next (pc' := 12) (xst_of (i := (.if_icmp .ge 7)) (len := 3) rfl rfl (xf_icmp_ge (t := 16) rfl hc)) ?_
      refine y_next (pc' := 13) (xst_of (i := (.iconst 1)) (len := 1) rfl rfl (x_ico (v := 1) (by decide))) ?_
      refine y_next (pc' := 17) (xst_of (i := (.goto 4)) (len := 3) rfl rfl rfl) ?_
      exact H _ e0 e1
theorem b_42_16 {V : xV} {l0 : Nat} {l1 : Int32} {h : xH} {Q : xQ → xH → Prop} (H : B_42_17 V l0 l1 0 h Q) : B_42_16 V l0 l1 h Q := by
  intro lv e0 e1
  refine y_next (pc' := 17) (xst_of (i := (.iconst 0)) (len := 1) rfl rfl (x_ico (v := 0) (by decide))) ?_
  exact H _ e0 e1
theorem b_42_17 {V : xV} {l0 : Nat} {l1 : Int32} {s0 : Int32} {h : xH} {Q : xQ → xH → Prop} (H : (s0 = 0 ∨ s0 = 1) ∧ Q (.inl (some (.int s0))) h) : B_42_17 V l0 l1 s0 h Q := by
  intro lv e0 e1
  exact y_ret (xst_of (i := .ireturn) (len := 1) rfl rfl (x_zret rfl H.1)) H.2
theorem e_42 {V : xV} {l0 : Nat} {l1 : Int32} {h : xH} {Q : xQ → xH → Prop} (H : B_42_0 V l0 l1 h Q) : xY V 42 0 [(0, .ref l0), (1, .int l1)] [] h Q := H _ rfl rfl
/-! 43: RegionYard$Program.wordAt(I)I -/
def B_43_0 (V : xV) (l0 : Nat) (l1 : Int32) (h : xH) (Q : xQ → xH → Prop) : Prop := ∀ lv : xL, xlk lv 0 = some (.ref l0) → xlk lv 1 = some (.int l1) → xY V 43 0 lv [] h Q
def B_43_21 (V : xV) (l0 : Nat) (l1 : Int32) (h : xH) (Q : xQ → xH → Prop) : Prop := ∀ lv : xL, xlk lv 0 = some (.ref l0) → xlk lv 1 = some (.int l1) → xY V 43 21 lv [] h Q
def B_43_22 (V : xV) (l0 : Nat) (l1 : Int32) (s0 : Int32) (h : xH) (Q : xQ → xH → Prop) : Prop := ∀ lv : xL, xlk lv 0 = some (.ref l0) → xlk lv 1 = some (.int l1) → xY V 43 22 lv [.int s0] h Q
theorem b_43_0 {V : xV} {l0 : Nat} {l1 : Int32} {h : xH} {Q : xQ → xH → Prop} (H : ((l1 < 0) → B_43_21 V l0 l1 h Q) ∧ (¬ (l1 < 0) → gI h l0 5 5 (fun x1 => ((x1 ≤ l1) → B_43_21 V l0 l1 h Q) ∧ (¬ (x1 ≤ l1) → gV h l0 5 1 (fun v2 => isR v2 (fun b3 => aI V h b3 l1 (fun x4 => B_43_22 V l0 l1 x4 h Q))))))) : B_43_0 V l0 l1 h Q := by
  intro lv e0 e1
  refine y_next (pc' := 1) (xst_of (i := (.iload_n 1)) (len := 1) rfl rfl (x_ilo e1)) ?_
  by_cases hc : l1 < 0
  · replace H := H.1 hc
    refine y_next (xst_of (i := (.ifCond .lt 20)) (len := 3) rfl rfl (xt_if_lt (t := 21) rfl hc)) ?_
    exact H _ e0 e1
  · replace H := H.2 hc
    refine y_next (pc' := 4) (xst_of (i := (.ifCond .lt 20)) (len := 3) rfl rfl (xf_if_lt (t := 21) rfl hc)) ?_
    refine y_next (pc' := 5) (xst_of (i := (.iload_n 1)) (len := 1) rfl rfl (x_ilo e1)) ?_
    refine y_next (pc' := 6) (xst_of (i := (.aload_n 0)) (len := 1) rfl rfl (x_aloadV (xisV_r _) e0)) ?_
    obtain ⟨fs, x1, ea, eb, H⟩ := H
    refine y_next (pc' := 9) (xst_of (i := (.getfield 49)) (len := 3) rfl rfl (x_getf rfl ea eb)) ?_
    by_cases hc : x1 ≤ l1
    · replace H := H.1 hc
      refine y_next (xst_of (i := (.if_icmp .ge 12)) (len := 3) rfl rfl (xt_icmp_ge (t := 21) rfl hc)) ?_
      exact H _ e0 e1
    · replace H := H.2 hc
      refine y_next (pc' := 12) (xst_of (i := (.if_icmp .ge 12)) (len := 3) rfl rfl (xf_icmp_ge (t := 21) rfl hc)) ?_
      refine y_next (pc' := 13) (xst_of (i := (.aload_n 0)) (len := 1) rfl rfl (x_aloadV (xisV_r _) e0)) ?_
      obtain ⟨fs, v2, ea, eb, hv_v2, H⟩ := H
      refine y_next (pc' := 16) (xst_of (i := (.getfield 9)) (len := 3) rfl rfl (x_getf rfl ea eb)) ?_
      refine y_next (pc' := 17) (xst_of (i := (.iload_n 1)) (len := 1) rfl rfl (x_ilo e1)) ?_
      obtain ⟨b3, hn, H⟩ := H
      subst hn
      obtain ⟨n, f, ea, eb, H⟩ := H
      refine y_next (pc' := 18) (xst_of (i := .iaload) (len := 1) rfl rfl (x_iald ea eb)) ?_
      generalize f (Int32.toNatClampNeg l1) = x4 at H ⊢
      refine y_next (pc' := 22) (xst_of (i := (.goto 4)) (len := 3) rfl rfl rfl) ?_
      exact H _ e0 e1
theorem b_43_21 {V : xV} {l0 : Nat} {l1 : Int32} {h : xH} {Q : xQ → xH → Prop} (H : B_43_22 V l0 l1 0 h Q) : B_43_21 V l0 l1 h Q := by
  intro lv e0 e1
  refine y_next (pc' := 22) (xst_of (i := (.iconst 0)) (len := 1) rfl rfl (x_ico (v := 0) (by decide))) ?_
  exact H _ e0 e1
theorem b_43_22 {V : xV} {l0 : Nat} {l1 : Int32} {s0 : Int32} {h : xH} {Q : xQ → xH → Prop} (H : Q (.inl (some (.int s0))) h) : B_43_22 V l0 l1 s0 h Q := by
  intro lv e0 e1
  exact y_ret (xst_of (i := .ireturn) (len := 1) rfl rfl rfl) H
theorem e_43 {V : xV} {l0 : Nat} {l1 : Int32} {h : xH} {Q : xQ → xH → Prop} (H : B_43_0 V l0 l1 h Q) : xY V 43 0 [(0, .ref l0), (1, .int l1)] [] h Q := H _ rfl rfl
/-! 44: RegionYard$Program.labelAt(I)LRegionYard$Label; -/
def B_44_0 (V : xV) (l0 : Nat) (l1 : Int32) (h : xH) (Q : xQ → xH → Prop) : Prop := ∀ lv : xL, xlk lv 0 = some (.ref l0) → xlk lv 1 = some (.int l1) → xY V 44 0 lv [] h Q
def B_44_21 (V : xV) (l0 : Nat) (l1 : Int32) (h : xH) (Q : xQ → xH → Prop) : Prop := ∀ lv : xL, xlk lv 0 = some (.ref l0) → xlk lv 1 = some (.int l1) → xY V 44 21 lv [] h Q
def B_44_22 (V : xV) (l0 : Nat) (l1 : Int32) (s0 : Value) (h : xH) (Q : xQ → xH → Prop) : Prop := ∀ lv : xL, xlk lv 0 = some (.ref l0) → xlk lv 1 = some (.int l1) → xisV s0 → xY V 44 22 lv [s0] h Q
theorem b_44_0 {V : xV} {l0 : Nat} {l1 : Int32} {h : xH} {Q : xQ → xH → Prop} (H : ((l1 < 0) → B_44_21 V l0 l1 h Q) ∧ (¬ (l1 < 0) → gI h l0 5 5 (fun x1 => ((x1 ≤ l1) → B_44_21 V l0 l1 h Q) ∧ (¬ (x1 ≤ l1) → gV h l0 5 2 (fun v2 => isR v2 (fun b3 => aR h b3 l1 (fun v4 => B_44_22 V l0 l1 v4 h Q))))))) : B_44_0 V l0 l1 h Q := by
  intro lv e0 e1
  refine y_next (pc' := 1) (xst_of (i := (.iload_n 1)) (len := 1) rfl rfl (x_ilo e1)) ?_
  by_cases hc : l1 < 0
  · replace H := H.1 hc
    refine y_next (xst_of (i := (.ifCond .lt 20)) (len := 3) rfl rfl (xt_if_lt (t := 21) rfl hc)) ?_
    exact H _ e0 e1
  · replace H := H.2 hc
    refine y_next (pc' := 4) (xst_of (i := (.ifCond .lt 20)) (len := 3) rfl rfl (xf_if_lt (t := 21) rfl hc)) ?_
    refine y_next (pc' := 5) (xst_of (i := (.iload_n 1)) (len := 1) rfl rfl (x_ilo e1)) ?_
    refine y_next (pc' := 6) (xst_of (i := (.aload_n 0)) (len := 1) rfl rfl (x_aloadV (xisV_r _) e0)) ?_
    obtain ⟨fs, x1, ea, eb, H⟩ := H
    refine y_next (pc' := 9) (xst_of (i := (.getfield 49)) (len := 3) rfl rfl (x_getf rfl ea eb)) ?_
    by_cases hc : x1 ≤ l1
    · replace H := H.1 hc
      refine y_next (xst_of (i := (.if_icmp .ge 12)) (len := 3) rfl rfl (xt_icmp_ge (t := 21) rfl hc)) ?_
      exact H _ e0 e1
    · replace H := H.2 hc
      refine y_next (pc' := 12) (xst_of (i := (.if_icmp .ge 12)) (len := 3) rfl rfl (xf_icmp_ge (t := 21) rfl hc)) ?_
      refine y_next (pc' := 13) (xst_of (i := (.aload_n 0)) (len := 1) rfl rfl (x_aloadV (xisV_r _) e0)) ?_
      obtain ⟨fs, v2, ea, eb, hv_v2, H⟩ := H
      refine y_next (pc' := 16) (xst_of (i := (.getfield 17)) (len := 3) rfl rfl (x_getf rfl ea eb)) ?_
      refine y_next (pc' := 17) (xst_of (i := (.iload_n 1)) (len := 1) rfl rfl (x_ilo e1)) ?_
      obtain ⟨b3, hn, H⟩ := H
      subst hn
      obtain ⟨k, n, f, ea, eb, ec, H⟩ := H
      refine y_next (pc' := 18) (xst_of (i := .aaload) (len := 1) rfl rfl (x_aald ea eb ec)) ?_
      have hv_v4 := xisV_rf (f (Int32.toNatClampNeg l1))
      generalize va_rf (f (Int32.toNatClampNeg l1)) = v4 at H hv_v4 ⊢
      refine y_next (pc' := 22) (xst_of (i := (.goto 4)) (len := 3) rfl rfl rfl) ?_
      exact H _ e0 e1 (hv_v4)
theorem b_44_21 {V : xV} {l0 : Nat} {l1 : Int32} {h : xH} {Q : xQ → xH → Prop} (H : B_44_22 V l0 l1 .null h Q) : B_44_21 V l0 l1 h Q := by
  intro lv e0 e1
  refine y_next (pc' := 22) (xst_of (i := .aconst_null) (len := 1) rfl rfl rfl) ?_
  exact H _ e0 e1 (xisV_n)
theorem b_44_22 {V : xV} {l0 : Nat} {l1 : Int32} {s0 : Value} {h : xH} {Q : xQ → xH → Prop} (H : Q (.inl (some (s0))) h) : B_44_22 V l0 l1 s0 h Q := by
  intro lv e0 e1 hv_s0
  exact y_ret (xst_of (i := .areturn) (len := 1) rfl rfl (x_aretV rfl (hv_s0))) H
theorem e_44 {V : xV} {l0 : Nat} {l1 : Int32} {h : xH} {Q : xQ → xH → Prop} (H : B_44_0 V l0 l1 h Q) : xY V 44 0 [(0, .ref l0), (1, .int l1)] [] h Q := H _ rfl rfl
/-! 45: RegionYard$Program.functionAt(I)LRegionYard$Function; -/
def B_45_0 (V : xV) (l0 : Nat) (l1 : Int32) (h : xH) (Q : xQ → xH → Prop) : Prop := ∀ lv : xL, xlk lv 0 = some (.ref l0) → xlk lv 1 = some (.int l1) → xY V 45 0 lv [] h Q
def B_45_21 (V : xV) (l0 : Nat) (l1 : Int32) (h : xH) (Q : xQ → xH → Prop) : Prop := ∀ lv : xL, xlk lv 0 = some (.ref l0) → xlk lv 1 = some (.int l1) → xY V 45 21 lv [] h Q
def B_45_22 (V : xV) (l0 : Nat) (l1 : Int32) (s0 : Value) (h : xH) (Q : xQ → xH → Prop) : Prop := ∀ lv : xL, xlk lv 0 = some (.ref l0) → xlk lv 1 = some (.int l1) → xisV s0 → xY V 45 22 lv [s0] h Q
theorem b_45_0 {V : xV} {l0 : Nat} {l1 : Int32} {h : xH} {Q : xQ → xH → Prop} (H : ((l1 < 0) → B_45_21 V l0 l1 h Q) ∧ (¬ (l1 < 0) → gI h l0 5 6 (fun x1 => ((x1 ≤ l1) → B_45_21 V l0 l1 h Q) ∧ (¬ (x1 ≤ l1) → gV h l0 5 3 (fun v2 => isR v2 (fun b3 => aR h b3 l1 (fun v4 => B_45_22 V l0 l1 v4 h Q))))))) : B_45_0 V l0 l1 h Q := by
  intro lv e0 e1
  refine y_next (pc' := 1) (xst_of (i := (.iload_n 1)) (len := 1) rfl rfl (x_ilo e1)) ?_
  by_cases hc : l1 < 0
  · replace H := H.1 hc
    refine y_next (xst_of (i := (.ifCond .lt 20)) (len := 3) rfl rfl (xt_if_lt (t := 21) rfl hc)) ?_
    exact H _ e0 e1
  · replace H := H.2 hc
    refine y_next (pc' := 4) (xst_of (i := (.ifCond .lt 20)) (len := 3) rfl rfl (xf_if_lt (t := 21) rfl hc)) ?_
    refine y_next (pc' := 5) (xst_of (i := (.iload_n 1)) (len := 1) rfl rfl (x_ilo e1)) ?_
    refine y_next (pc' := 6) (xst_of (i := (.aload_n 0)) (len := 1) rfl rfl (x_aloadV (xisV_r _) e0)) ?_
    obtain ⟨fs, x1, ea, eb, H⟩ := H
    refine y_next (pc' := 9) (xst_of (i := (.getfield 46)) (len := 3) rfl rfl (x_getf rfl ea eb)) ?_
    by_cases hc : x1 ≤ l1
    · replace H := H.1 hc
      refine y_next (xst_of (i := (.if_icmp .ge 12)) (len := 3) rfl rfl (xt_icmp_ge (t := 21) rfl hc)) ?_
      exact H _ e0 e1
    · replace H := H.2 hc
      refine y_next (pc' := 12) (xst_of (i := (.if_icmp .ge 12)) (len := 3) rfl rfl (xf_icmp_ge (t := 21) rfl hc)) ?_
      refine y_next (pc' := 13) (xst_of (i := (.aload_n 0)) (len := 1) rfl rfl (x_aloadV (xisV_r _) e0)) ?_
      obtain ⟨fs, v2, ea, eb, hv_v2, H⟩ := H
      refine y_next (pc' := 16) (xst_of (i := (.getfield 23)) (len := 3) rfl rfl (x_getf rfl ea eb)) ?_
      refine y_next (pc' := 17) (xst_of (i := (.iload_n 1)) (len := 1) rfl rfl (x_ilo e1)) ?_
      obtain ⟨b3, hn, H⟩ := H
      subst hn
      obtain ⟨k, n, f, ea, eb, ec, H⟩ := H
      refine y_next (pc' := 18) (xst_of (i := .aaload) (len := 1) rfl rfl (x_aald ea eb ec)) ?_
      have hv_v4 := xisV_rf (f (Int32.toNatClampNeg l1))
      generalize va_rf (f (Int32.toNatClampNeg l1)) = v4 at H hv_v4 ⊢
      refine y_next (pc' := 22) (xst_of (i := (.goto 4)) (len := 3) rfl rfl rfl) ?_
      exact H _ e0 e1 (hv_v4)
theorem b_45_21 {V : xV} {l0 : Nat} {l1 : Int32} {h : xH} {Q : xQ → xH → Prop} (H : B_45_22 V l0 l1 .null h Q) : B_45_21 V l0 l1 h Q := by
  intro lv e0 e1
  refine y_next (pc' := 22) (xst_of (i := .aconst_null) (len := 1) rfl rfl rfl) ?_
  exact H _ e0 e1 (xisV_n)
theorem b_45_22 {V : xV} {l0 : Nat} {l1 : Int32} {s0 : Value} {h : xH} {Q : xQ → xH → Prop} (H : Q (.inl (some (s0))) h) : B_45_22 V l0 l1 s0 h Q := by
  intro lv e0 e1 hv_s0
  exact y_ret (xst_of (i := .areturn) (len := 1) rfl rfl (x_aretV rfl (hv_s0))) H
theorem e_45 {V : xV} {l0 : Nat} {l1 : Int32} {h : xH} {Q : xQ → xH → Prop} (H : B_45_0 V l0 l1 h Q) : xY V 45 0 [(0, .ref l0), (1, .int l1)] [] h Q := H _ rfl rfl
/-! 46: RegionYard$Program.linkAt(I)LRegionYard$Link; -/
def B_46_0 (V : xV) (l0 : Nat) (l1 : Int32) (h : xH) (Q : xQ → xH → Prop) : Prop := ∀ lv : xL, xlk lv 0 = some (.ref l0) → xlk lv 1 = some (.int l1) → xY V 46 0 lv [] h Q
def B_46_21 (V : xV) (l0 : Nat) (l1 : Int32) (h : xH) (Q : xQ → xH → Prop) : Prop := ∀ lv : xL, xlk lv 0 = some (.ref l0) → xlk lv 1 = some (.int l1) → xY V 46 21 lv [] h Q
def B_46_22 (V : xV) (l0 : Nat) (l1 : Int32) (s0 : Value) (h : xH) (Q : xQ → xH → Prop) : Prop := ∀ lv : xL, xlk lv 0 = some (.ref l0) → xlk lv 1 = some (.int l1) → xisV s0 → xY V 46 22 lv [s0] h Q
theorem b_46_0 {V : xV} {l0 : Nat} {l1 : Int32} {h : xH} {Q : xQ → xH → Prop} (H : ((l1 < 0) → B_46_21 V l0 l1 h Q) ∧ (¬ (l1 < 0) → gI h l0 5 7 (fun x1 => ((x1 ≤ l1) → B_46_21 V l0 l1 h Q) ∧ (¬ (x1 ≤ l1) → gV h l0 5 4 (fun v2 => isR v2 (fun b3 => aR h b3 l1 (fun v4 => B_46_22 V l0 l1 v4 h Q))))))) : B_46_0 V l0 l1 h Q := by
  intro lv e0 e1
  refine y_next (pc' := 1) (xst_of (i := (.iload_n 1)) (len := 1) rfl rfl (x_ilo e1)) ?_
  by_cases hc : l1 < 0
  · replace H := H.1 hc
    refine y_next (xst_of (i := (.ifCond .lt 20)) (len := 3) rfl rfl (xt_if_lt (t := 21) rfl hc)) ?_
    exact H _ e0 e1
  · replace H := H.2 hc
    refine y_next (pc' := 4) (xst_of (i := (.ifCond .lt 20)) (len := 3) rfl rfl (xf_if_lt (t := 21) rfl hc)) ?_
    refine y_next (pc' := 5) (xst_of (i := (.iload_n 1)) (len := 1) rfl rfl (x_ilo e1)) ?_
    refine y_next (pc' := 6) (xst_of (i := (.aload_n 0)) (len := 1) rfl rfl (x_aloadV (xisV_r _) e0)) ?_
    obtain ⟨fs, x1, ea, eb, H⟩ := H
    refine y_next (pc' := 9) (xst_of (i := (.getfield 52)) (len := 3) rfl rfl (x_getf rfl ea eb)) ?_
    by_cases hc : x1 ≤ l1
    · replace H := H.1 hc
      refine y_next (xst_of (i := (.if_icmp .ge 12)) (len := 3) rfl rfl (xt_icmp_ge (t := 21) rfl hc)) ?_
      exact H _ e0 e1
    · replace H := H.2 hc
      refine y_next (pc' := 12) (xst_of (i := (.if_icmp .ge 12)) (len := 3) rfl rfl (xf_icmp_ge (t := 21) rfl hc)) ?_
      refine y_next (pc' := 13) (xst_of (i := (.aload_n 0)) (len := 1) rfl rfl (x_aloadV (xisV_r _) e0)) ?_
      obtain ⟨fs, v2, ea, eb, hv_v2, H⟩ := H
      refine y_next (pc' := 16) (xst_of (i := (.getfield 29)) (len := 3) rfl rfl (x_getf rfl ea eb)) ?_
      refine y_next (pc' := 17) (xst_of (i := (.iload_n 1)) (len := 1) rfl rfl (x_ilo e1)) ?_
      obtain ⟨b3, hn, H⟩ := H
      subst hn
      obtain ⟨k, n, f, ea, eb, ec, H⟩ := H
      refine y_next (pc' := 18) (xst_of (i := .aaload) (len := 1) rfl rfl (x_aald ea eb ec)) ?_
      have hv_v4 := xisV_rf (f (Int32.toNatClampNeg l1))
      generalize va_rf (f (Int32.toNatClampNeg l1)) = v4 at H hv_v4 ⊢
      refine y_next (pc' := 22) (xst_of (i := (.goto 4)) (len := 3) rfl rfl rfl) ?_
      exact H _ e0 e1 (hv_v4)
theorem b_46_21 {V : xV} {l0 : Nat} {l1 : Int32} {h : xH} {Q : xQ → xH → Prop} (H : B_46_22 V l0 l1 .null h Q) : B_46_21 V l0 l1 h Q := by
  intro lv e0 e1
  refine y_next (pc' := 22) (xst_of (i := .aconst_null) (len := 1) rfl rfl rfl) ?_
  exact H _ e0 e1 (xisV_n)
theorem b_46_22 {V : xV} {l0 : Nat} {l1 : Int32} {s0 : Value} {h : xH} {Q : xQ → xH → Prop} (H : Q (.inl (some (s0))) h) : B_46_22 V l0 l1 s0 h Q := by
  intro lv e0 e1 hv_s0
  exact y_ret (xst_of (i := .areturn) (len := 1) rfl rfl (x_aretV rfl (hv_s0))) H
theorem e_46 {V : xV} {l0 : Nat} {l1 : Int32} {h : xH} {Q : xQ → xH → Prop} (H : B_46_0 V l0 l1 h Q) : xY V 46 0 [(0, .ref l0), (1, .int l1)] [] h Q := H _ rfl rfl
/-! 47: RegionYard$Program.entryLabel(I)LRegionYard$Label; -/
def B_47_0 (V : xV) (l0 : Nat) (l1 : Int32) (h : xH) (Q : xQ → xH → Prop) : Prop := ∀ lv : xL, xlk lv 0 = some (.ref l0) → xlk lv 1 = some (.int l1) → xY V 47 0 lv [] h Q
def B_47_22 (V : xV) (l0 : Nat) (l1 : Int32) (l2 : Value) (s0 : Value) (h : xH) (Q : xQ → xH → Prop) : Prop := ∀ lv : xL, xlk lv 0 = some (.ref l0) → xlk lv 1 = some (.int l1) → xlk lv 2 = some (l2) → xisV l2 → xisV s0 → xY V 47 22 lv [s0] h Q
def B_47_39 (V : xV) (l0 : Nat) (l1 : Int32) (l2 : Value) (l3 : Value) (h : xH) (Q : xQ → xH → Prop) : Prop := ∀ lv : xL, xlk lv 0 = some (.ref l0) → xlk lv 1 = some (.int l1) → xlk lv 2 = some (l2) → xlk lv 3 = some (l3) → xisV l2 → xisV l3 → xY V 47 39 lv [] h Q
def B_47_40 (V : xV) (l0 : Nat) (l1 : Int32) (l2 : Value) (l3 : Value) (s0 : Value) (h : xH) (Q : xQ → xH → Prop) : Prop := ∀ lv : xL, xlk lv 0 = some (.ref l0) → xlk lv 1 = some (.int l1) → xlk lv 2 = some (l2) → xlk lv 3 = some (l3) → xisV l2 → xisV l3 → xisV s0 → xY V 47 40 lv [s0] h Q
theorem b_47_0 {V : xV} {l0 : Nat} {l1 : Int32} {h : xH} {Q : xQ → xH → Prop} (H : isO h l0 5 <| xY V 45 0 [(0, .ref l0), (1, .int l1)] [] h (fun r h1 => ∃ v2, r = .inl (some (v2)) ∧ xisV v2 ∧ isN v2 (B_47_22 V l0 l1 .null .null h1 Q) (fun b3 => gI h1 b3 0 0 (fun x4 => isO h1 l0 5 <| xY V 44 0 [(0, .ref l0), (1, .int x4)] [] h1 (fun r h5 => ∃ v6, r = .inl (some (v6)) ∧ xisV v6 ∧ B_47_22 V l0 l1 (.ref b3) v6 h5 Q))))) : B_47_0 V l0 l1 h Q := by
  intro lv e0 e1
  refine y_next (pc' := 1) (xst_of (i := (.aload_n 0)) (len := 1) rfl rfl (x_aloadV (xisV_r _) e0)) ?_
  refine y_next (pc' := 2) (xst_of (i := (.iload_n 1)) (len := 1) rfl rfl (x_ilo e1)) ?_
  obtain ⟨⟨fs, ea⟩, H⟩ := H
  refine y_call (xst_of (i := (.invokevirtual 55)) (len := 3) rfl rfl (x_callv rfl rfl ea rfl rfl)) (H.imp (fun r h1 z => ?_))
  obtain ⟨v2, rfl, hv_v2, H⟩ := z
  change xY V 47 5 _ _ h1 Q
  refine y_next (pc' := 6) (xst_of (i := (.astore_n 2)) (len := 1) rfl rfl (x_astoreV (hv_v2) (by decide))) ?_
  have e0 := xs1_a (i := 2) (v := v2) e0 (by decide) (by decide)
  have e1 := xs1_b (i := 2) (v := v2) e1 (by decide) rfl
  have e2 := xs1_n (lv := _) (i := 2) (v := v2)
  refine y_next (pc' := 7) (xst_of (i := (.aload_n 2)) (len := 1) rfl rfl (x_aloadV (hv_v2) e2)) ?_
  rcases hv_v2 with hn | ⟨b3, hn⟩
  · replace H := H.1 hn
    subst hn
    refine y_next (pc' := 10) (xst_of (i := (.ifnonnull 7)) (len := 3) rfl rfl rfl) ?_
    refine y_next (pc' := 11) (xst_of (i := .aconst_null) (len := 1) rfl rfl rfl) ?_
    refine y_next (pc' := 22) (xst_of (i := (.goto 11)) (len := 3) rfl rfl rfl) ?_
    exact H _ e0 e1 e2 (xisV_n) (xisV_n)
  · replace H := H.2 b3 hn
    subst hn
    refine y_next (pc' := 14) (xst_of (i := (.ifnonnull 7)) (len := 3) rfl rfl rfl) ?_
    refine y_next (pc' := 15) (xst_of (i := (.aload_n 0)) (len := 1) rfl rfl (x_aloadV (xisV_r _) e0)) ?_
    refine y_next (pc' := 16) (xst_of (i := (.aload_n 2)) (len := 1) rfl rfl (x_aloadV (xisV_r _) e2)) ?_
    obtain ⟨fs, x4, ea, eb, H⟩ := H
    refine y_next (pc' := 19) (xst_of (i := (.getfield 59)) (len := 3) rfl rfl (x_getf rfl ea eb)) ?_
    obtain ⟨⟨fs, ea⟩, H⟩ := H
    refine y_call (xst_of (i := (.invokevirtual 62)) (len := 3) rfl rfl (x_callv rfl rfl ea rfl rfl)) (H.imp (fun r h5 z => ?_))
    obtain ⟨v6, rfl, hv_v6, H⟩ := z
    change xY V 47 22 _ _ h5 Q
    exact H _ e0 e1 e2 (xisV_r _) (hv_v6)
theorem b_47_22 {V : xV} {l0 : Nat} {l1 : Int32} {l2 : Value} {s0 : Value} {h : xH} {Q : xQ → xH → Prop} (H : isN s0 (B_47_39 V l0 l1 l2 .null h Q) (fun b1 => gI h b1 2 1 (fun x2 => ((¬ x2 = l1) → B_47_39 V l0 l1 l2 (.ref b1) h Q) ∧ (¬ (¬ x2 = l1) → B_47_40 V l0 l1 l2 (.ref b1) (.ref b1) h Q)))) : B_47_22 V l0 l1 l2 s0 h Q := by
  intro lv e0 e1 e2 hv_l2 hv_s0
  refine y_next (pc' := 23) (xst_of (i := (.astore_n 3)) (len := 1) rfl rfl (x_astoreV (hv_s0) (by decide))) ?_
  have e0 := xs1_a (i := 3) (v := s0) e0 (by decide) (by decide)
  have e1 := xs1_a (i := 3) (v := s0) e1 (by decide) (by decide)
  have e2 := xs1_b (i := 3) (v := s0) e2 (by decide) (xisV_c hv_l2)
  have e3 := xs1_n (lv := _) (i := 3) (v := s0)
  refine y_next (pc' := 24) (xst_of (i := (.aload_n 3)) (len := 1) rfl rfl (x_aloadV (hv_s0) e3)) ?_
  rcases hv_s0 with hn | ⟨b1, hn⟩
  · replace H := H.1 hn
    subst hn
    refine y_next (pc' := 39) (xst_of (i := (.ifnull 15)) (len := 3) rfl rfl rfl) ?_
    exact H _ e0 e1 e2 e3 (hv_l2) (xisV_n)
  · replace H := H.2 b1 hn
    subst hn
    refine y_next (pc' := 27) (xst_of (i := (.ifnull 15)) (len := 3) rfl rfl rfl) ?_
    refine y_next (pc' := 28) (xst_of (i := (.aload_n 3)) (len := 1) rfl rfl (x_aloadV (xisV_r _) e3)) ?_
    obtain ⟨fs, x2, ea, eb, H⟩ := H
    refine y_next (pc' := 31) (xst_of (i := (.getfield 66)) (len := 3) rfl rfl (x_getf rfl ea eb)) ?_
    refine y_next (pc' := 32) (xst_of (i := (.iload_n 1)) (len := 1) rfl rfl (x_ilo e1)) ?_
    by_cases hc : ¬ x2 = l1
    · replace H := H.1 hc
      refine y_next (xst_of (i := (.if_icmp .ne 7)) (len := 3) rfl rfl (xt_icmp_ne (t := 39) rfl hc)) ?_
      exact H _ e0 e1 e2 e3 (hv_l2) (xisV_r _)
    · replace H := H.2 hc
      refine y_next (pc' := 35) (xst_of (i := (.if_icmp .ne 7)) (len := 3) rfl rfl (xf_icmp_ne (t := 39) rfl hc)) ?_
      refine y_next (pc' := 36) (xst_of (i := (.aload_n 3)) (len := 1) rfl rfl (x_aloadV (xisV_r _) e3)) ?_
      refine y_next (pc' := 40) (xst_of (i := (.goto 4)) (len := 3) rfl rfl rfl) ?_
      exact H _ e0 e1 e2 e3 (hv_l2) (xisV_r _) (xisV_r _)
theorem b_47_39 {V : xV} {l0 : Nat} {l1 : Int32} {l2 : Value} {l3 : Value} {h : xH} {Q : xQ → xH → Prop} (H : B_47_40 V l0 l1 l2 l3 .null h Q) : B_47_39 V l0 l1 l2 l3 h Q := by
  intro lv e0 e1 e2 e3 hv_l2 hv_l3
  refine y_next (pc' := 40) (xst_of (i := .aconst_null) (len := 1) rfl rfl rfl) ?_
  exact H _ e0 e1 e2 e3 (hv_l2) (hv_l3) (xisV_n)
theorem b_47_40 {V : xV} {l0 : Nat} {l1 : Int32} {l2 : Value} {l3 : Value} {s0 : Value} {h : xH} {Q : xQ → xH → Prop} (H : Q (.inl (some (s0))) h) : B_47_40 V l0 l1 l2 l3 s0 h Q := by
  intro lv e0 e1 e2 e3 hv_l2 hv_l3 hv_s0
  exact y_ret (xst_of (i := .areturn) (len := 1) rfl rfl (x_aretV rfl (hv_s0))) H
theorem e_47 {V : xV} {l0 : Nat} {l1 : Int32} {h : xH} {Q : xQ → xH → Prop} (H : B_47_0 V l0 l1 h Q) : xY V 47 0 [(0, .ref l0), (1, .int l1)] [] h Q := H _ rfl rfl
/-! 48: RegionYard$Program.addWord(I)I -/
def B_48_0 (V : xV) (l0 : Nat) (l1 : Int32) (h : xH) (Q : xQ → xH → Prop) : Prop := ∀ lv : xL, xlk lv 0 = some (.ref l0) → xlk lv 1 = some (.int l1) → xY V 48 0 lv [] h Q
theorem b_48_0 {V : xV} {l0 : Nat} {l1 : Int32} {h : xH} {Q : xQ → xH → Prop} (H : gI h l0 5 5 (fun x1 => ((x1 < 200) → gV h l0 5 1 (fun v2 => gI h l0 5 5 (fun x3 => isR v2 (fun b4 => sI h b4 x3 l1 (fun h5 => gI h5 l0 5 5 (fun x6 => pF h5 l0 5 5 (.int (x6 + 1)) (fun h7 => gI h7 l0 5 5 (fun x8 => Q (.inl (some (.int (x8 - 1)))) h7)))))))) ∧ (¬ (x1 < 200) → Q (.inl (some (.int (-1)))) h))) : B_48_0 V l0 l1 h Q := by
  intro lv e0 e1
  refine y_next (pc' := 1) (xst_of (i := (.aload_n 0)) (len := 1) rfl rfl (x_aloadV (xisV_r _) e0)) ?_
  obtain ⟨fs, x1, ea, eb, H⟩ := H
  refine y_next (pc' := 4) (xst_of (i := (.getfield 49)) (len := 3) rfl rfl (x_getf rfl ea eb)) ?_
  refine y_next (pc' := 7) (xst_of (i := (.sipush 200)) (len := 3) rfl rfl (x_sip (v := 200) (by decide))) ?_
  by_cases hc : x1 < 200
  · replace H := H.1 hc
    refine y_next (xst_of (i := (.if_icmp .lt 5)) (len := 3) rfl rfl (xt_icmp_lt (t := 12) rfl hc)) ?_
    refine y_next (pc' := 13) (xst_of (i := (.aload_n 0)) (len := 1) rfl rfl (x_aloadV (xisV_r _) e0)) ?_
    obtain ⟨fs, v2, ea, eb, hv_v2, H⟩ := H
    refine y_next (pc' := 16) (xst_of (i := (.getfield 9)) (len := 3) rfl rfl (x_getf rfl ea eb)) ?_
    refine y_next (pc' := 17) (xst_of (i := (.aload_n 0)) (len := 1) rfl rfl (x_aloadV (xisV_r _) e0)) ?_
    obtain ⟨fs, x3, ea, eb, H⟩ := H
    refine y_next (pc' := 20) (xst_of (i := (.getfield 49)) (len := 3) rfl rfl (x_getf rfl ea eb)) ?_
    refine y_next (pc' := 21) (xst_of (i := (.iload_n 1)) (len := 1) rfl rfl (x_ilo e1)) ?_
    obtain ⟨b4, hn, H⟩ := H
    subst hn
    obtain ⟨n, f, ea, eb, H⟩ := H
    refine y_next (pc' := 22) (xst_of (i := .iastore) (len := 1) rfl rfl (x_iast ea eb)) ?_
    generalize xwr h b4 (.inl (0, n, .inl (upd f (Int32.toNatClampNeg x3) l1))) = h5 at H ⊢
    refine y_next (pc' := 23) (xst_of (i := (.aload_n 0)) (len := 1) rfl rfl (x_aloadV (xisV_r _) e0)) ?_
    refine y_next (pc' := 24) (xst_of (i := .dup) (len := 1) rfl rfl (x_dup rfl)) ?_
    obtain ⟨fs, x6, ea, eb, H⟩ := H
    refine y_next (pc' := 27) (xst_of (i := (.getfield 49)) (len := 3) rfl rfl (x_getf rfl ea eb)) ?_
    refine y_next (pc' := 28) (xst_of (i := (.iconst 1)) (len := 1) rfl rfl (x_ico (v := 1) (by decide))) ?_
    refine y_next (pc' := 29) (xst_of (i := .iadd) (len := 1) rfl rfl rfl) ?_
    obtain ⟨fs, ea, eb, H⟩ := H
    refine y_next (pc' := 32) (xst_of (i := (.putfield 49)) (len := 3) rfl rfl (x_putf rfl ea eb rfl rfl)) ?_
    generalize xwr h5 l0 (Sum.inr (5, List.set fs 5 (.int (x6 + 1)))) = h7 at H ⊢
    refine y_next (pc' := 33) (xst_of (i := (.aload_n 0)) (len := 1) rfl rfl (x_aloadV (xisV_r _) e0)) ?_
    obtain ⟨fs, x8, ea, eb, H⟩ := H
    refine y_next (pc' := 36) (xst_of (i := (.getfield 49)) (len := 3) rfl rfl (x_getf rfl ea eb)) ?_
    refine y_next (pc' := 37) (xst_of (i := (.iconst 1)) (len := 1) rfl rfl (x_ico (v := 1) (by decide))) ?_
    refine y_next (pc' := 38) (xst_of (i := .isub) (len := 1) rfl rfl rfl) ?_
    exact y_ret (xst_of (i := .ireturn) (len := 1) rfl rfl rfl) H
  · replace H := H.2 hc
    refine y_next (pc' := 10) (xst_of (i := (.if_icmp .lt 5)) (len := 3) rfl rfl (xf_icmp_lt (t := 12) rfl hc)) ?_
    refine y_next (pc' := 11) (xst_of (i := (.iconst (-1))) (len := 1) rfl rfl (x_ico (v := (-1)) (by decide))) ?_
    exact y_ret (xst_of (i := .ireturn) (len := 1) rfl rfl rfl) H
theorem e_48 {V : xV} {l0 : Nat} {l1 : Int32} {h : xH} {Q : xQ → xH → Prop} (H : B_48_0 V l0 l1 h Q) : xY V 48 0 [(0, .ref l0), (1, .int l1)] [] h Q := H _ rfl rfl
/-! 49: RegionYard$Program.setLabel(II)Z -/
def B_49_0 (V : xV) (l0 : Nat) (l1 : Int32) (l2 : Int32) (h : xH) (Q : xQ → xH → Prop) : Prop := ∀ lv : xL, xlk lv 0 = some (.ref l0) → xlk lv 1 = some (.int l1) → xlk lv 2 = some (.int l2) → xY V 49 0 lv [] h Q
def B_49_16 (V : xV) (l0 : Nat) (l1 : Int32) (l2 : Int32) (h : xH) (Q : xQ → xH → Prop) : Prop := ∀ lv : xL, xlk lv 0 = some (.ref l0) → xlk lv 1 = some (.int l1) → xlk lv 2 = some (.int l2) → xY V 49 16 lv [] h Q
def B_49_44 (V : xV) (l0 : Nat) (l1 : Int32) (l2 : Int32) (l3 : Value) (h : xH) (Q : xQ → xH → Prop) : Prop := ∀ lv : xL, xlk lv 0 = some (.ref l0) → xlk lv 1 = some (.int l1) → xlk lv 2 = some (.int l2) → xlk lv 3 = some (l3) → xisV l3 → xY V 49 44 lv [] h Q
theorem b_49_0 {V : xV} {l0 : Nat} {l1 : Int32} {l2 : Int32} {h : xH} {Q : xQ → xH → Prop} (H : isO h l0 5 <| xY V 42 0 [(0, .ref l0), (1, .int l1)] [] h (fun r h1 => ∃ x2, r = .inl (some (.int x2)) ∧ ((x2 = 0) → B_49_16 V l0 l1 l2 h1 Q) ∧ (¬ (x2 = 0) → isO h1 l0 5 <| xY V 45 0 [(0, .ref l0), (1, .int l2)] [] h1 (fun r h3 => ∃ v4, r = .inl (some (v4)) ∧ xisV v4 ∧ isN v4 (B_49_16 V l0 l1 l2 h3 Q) (fun b5 => gV h3 l0 5 2 (fun v6 => isR v6 (fun b7 => aR h3 b7 l1 (fun v8 => isN v8 (∀ (q10 : Nat) (h11 : xH), q10 = h3.2.1 → h11 = xalc h3 (.inr (2, [.null, .int 0])) 2 → xY V 27 0 [(0, .ref q10)] [] h11 (fun r h12 => r = .inl none ∧ gV h12 l0 5 2 (fun v13 => isR v13 (fun b14 => sR h12 b14 l1 q10 (fun h15 => B_49_44 V l0 l1 l2 (.ref q10) h15 Q))))) (fun b9 => B_49_44 V l0 l1 l2 (.ref b9) h3 Q))))))))) : B_49_0 V l0 l1 l2 h Q := by
  intro lv e0 e1 e2
  refine y_next (pc' := 1) (xst_of (i := (.aload_n 0)) (len := 1) rfl rfl (x_aloadV (xisV_r _) e0)) ?_
  refine y_next (pc' := 2) (xst_of (i := (.iload_n 1)) (len := 1) rfl rfl (x_ilo e1)) ?_
  obtain ⟨⟨fs, ea⟩, H⟩ := H
  refine y_call (xst_of (i := (.invokevirtual 69)) (len := 3) rfl rfl (x_callv rfl rfl ea rfl rfl)) (H.imp (fun r h1 z => ?_))
  obtain ⟨x2, rfl, H⟩ := z
  change xY V 49 5 _ _ h1 Q
  by_cases hc : x2 = 0
  · replace H := H.1 hc
    refine y_next (xst_of (i := (.ifCond .eq 11)) (len := 3) rfl rfl (xt_if_eq (t := 16) rfl hc)) ?_
    exact H _ e0 e1 e2
  · replace H := H.2 hc
    refine y_next (pc' := 8) (xst_of (i := (.ifCond .eq 11)) (len := 3) rfl rfl (xf_if_eq (t := 16) rfl hc)) ?_
    refine y_next (pc' := 9) (xst_of (i := (.aload_n 0)) (len := 1) rfl rfl (x_aloadV (xisV_r _) e0)) ?_
    refine y_next (pc' := 10) (xst_of (i := (.iload_n 2)) (len := 1) rfl rfl (x_ilo e2)) ?_
    obtain ⟨⟨fs, ea⟩, H⟩ := H
    refine y_call (xst_of (i := (.invokevirtual 55)) (len := 3) rfl rfl (x_callv rfl rfl ea rfl rfl)) (H.imp (fun r h3 z => ?_))
    obtain ⟨v4, rfl, hv_v4, H⟩ := z
    change xY V 49 13 _ _ h3 Q
    rcases hv_v4 with hn | ⟨b5, hn⟩
    · replace H := H.1 hn
      subst hn
      refine y_next (pc' := 16) (xst_of (i := (.ifnonnull 5)) (len := 3) rfl rfl rfl) ?_
      exact H _ e0 e1 e2
    · replace H := H.2 b5 hn
      subst hn
      refine y_next (pc' := 18) (xst_of (i := (.ifnonnull 5)) (len := 3) rfl rfl rfl) ?_
      refine y_next (pc' := 19) (xst_of (i := (.aload_n 0)) (len := 1) rfl rfl (x_aloadV (xisV_r _) e0)) ?_
      obtain ⟨fs, v6, ea, eb, hv_v6, H⟩ := H
      refine y_next (pc' := 22) (xst_of (i := (.getfield 17)) (len := 3) rfl rfl (x_getf rfl ea eb)) ?_
      refine y_next (pc' := 23) (xst_of (i := (.iload_n 1)) (len := 1) rfl rfl (x_ilo e1)) ?_
      obtain ⟨b7, hn, H⟩ := H
      subst hn
      obtain ⟨k, n, f, ea, eb, ec, H⟩ := H
      refine y_next (pc' := 24) (xst_of (i := .aaload) (len := 1) rfl rfl (x_aald ea eb ec)) ?_
      have hv_v8 := xisV_rf (f (Int32.toNatClampNeg l1))
      generalize va_rf (f (Int32.toNatClampNeg l1)) = v8 at H hv_v8 ⊢
      refine y_next (pc' := 25) (xst_of (i := (.astore_n 3)) (len := 1) rfl rfl (x_astoreV (hv_v8) (by decide))) ?_
      have e0 := xs1_a (i := 3) (v := v8) e0 (by decide) (by decide)
      have e1 := xs1_a (i := 3) (v := v8) e1 (by decide) (by decide)
      have e2 := xs1_b (i := 3) (v := v8) e2 (by decide) rfl
      have e3 := xs1_n (lv := _) (i := 3) (v := v8)
      refine y_next (pc' := 26) (xst_of (i := (.aload_n 3)) (len := 1) rfl rfl (x_aloadV (hv_v8) e3)) ?_
      rcases hv_v8 with hn | ⟨b9, hn⟩
      · replace H := H.1 hn
        subst hn
        refine y_next (pc' := 29) (xst_of (i := (.ifnonnull 18)) (len := 3) rfl rfl rfl) ?_
        refine y_next (pc' := 32) (h' := xalc h3 (.inr (2, [.null, .int 0])) 2) (xst_of (i := (.new 15)) (len := 3) rfl rfl rfl) ?_
        obtain ⟨q10, hq⟩ : ∃ z, z = h3.2.1 := ⟨_, rfl⟩
        obtain ⟨h11, hh⟩ : ∃ z, z = xalc h3 (.inr (2, [.null, .int 0])) 2 := ⟨_, rfl⟩
        replace H := H q10 h11 hq hh
        rw [← hq, ← hh]
        refine y_next (pc' := 33) (xst_of (i := .dup) (len := 1) rfl rfl (x_dup rfl)) ?_
        refine y_call (xst_of (i := (.invokespecial 73)) (len := 3) rfl rfl rfl) (H.imp (fun r h12 z => ?_))
        obtain ⟨rfl, H⟩ := z
        change xY V 49 36 _ _ h12 Q
        refine y_next (pc' := 37) (xst_of (i := (.astore_n 3)) (len := 1) rfl rfl (x_astoreV (xisV_r _) (by decide))) ?_
        have e0 := xs1_a (i := 3) (v := .ref q10) e0 (by decide) (by decide)
        have e1 := xs1_a (i := 3) (v := .ref q10) e1 (by decide) (by decide)
        have e2 := xs1_b (i := 3) (v := .ref q10) e2 (by decide) rfl
        have e3 := xs1_n (lv := _) (i := 3) (v := .ref q10)
        refine y_next (pc' := 38) (xst_of (i := (.aload_n 0)) (len := 1) rfl rfl (x_aloadV (xisV_r _) e0)) ?_
        obtain ⟨fs, v13, ea, eb, hv_v13, H⟩ := H
        refine y_next (pc' := 41) (xst_of (i := (.getfield 17)) (len := 3) rfl rfl (x_getf rfl ea eb)) ?_
        refine y_next (pc' := 42) (xst_of (i := (.iload_n 1)) (len := 1) rfl rfl (x_ilo e1)) ?_
        refine y_next (pc' := 43) (xst_of (i := (.aload_n 3)) (len := 1) rfl rfl (x_aloadV (xisV_r _) e3)) ?_
        obtain ⟨b14, hn, H⟩ := H
        subst hn
        obtain ⟨k, n, f, vs, ea, eb, ec, ed, H⟩ := H
        refine y_next (pc' := 44) (xst_of (i := .aastore) (len := 1) rfl rfl (x_aast ea eb ed)) ?_
        generalize xwr h12 b14 (.inl (k, n, .inr (.inr (.inr (.inr (va_up f (Int32.toNatClampNeg l1) (some q10))))))) = h15 at H ⊢
        exact H _ e0 e1 e2 e3 (xisV_r _)
      · replace H := H.2 b9 hn
        subst hn
        refine y_next (pc' := 44) (xst_of (i := (.ifnonnull 18)) (len := 3) rfl rfl rfl) ?_
        exact H _ e0 e1 e2 e3 (xisV_r _)
theorem b_49_16 {V : xV} {l0 : Nat} {l1 : Int32} {l2 : Int32} {h : xH} {Q : xQ → xH → Prop} (H : ((0 : Int32) = 0 ∨ 0 = 1) ∧ Q (.inl (some (.int 0))) h) : B_49_16 V l0 l1 l2 h Q := by
  intro lv e0 e1 e2
  refine y_next (pc' := 17) (xst_of (i := (.iconst 0)) (len := 1) rfl rfl (x_ico (v := 0) (by decide))) ?_
  exact y_ret (xst_of (i := .ireturn) (len := 1) rfl rfl (x_zret rfl H.1)) H.2
theorem b_49_44 {V : xV} {l0 : Nat} {l1 : Int32} {l2 : Int32} {l3 : Value} {h : xH} {Q : xQ → xH → Prop} (H : isR l3 (fun b1 => gV h b1 2 0 (fun v2 => isR v2 (fun b3 => isO h b3 8 <| xY V 83 0 [(0, .ref b3)] [] h (fun r h4 => r = .inl none ∧ pF h4 b1 2 1 (.int l2) (fun h5 => ((1 : Int32) = 0 ∨ 1 = 1) ∧ Q (.inl (some (.int 1))) h5)))))) : B_49_44 V l0 l1 l2 l3 h Q := by
  intro lv e0 e1 e2 e3 hv_l3
  refine y_next (pc' := 45) (xst_of (i := (.aload_n 3)) (len := 1) rfl rfl (x_aloadV (hv_l3) e3)) ?_
  obtain ⟨b1, hn, H⟩ := H
  subst hn
  obtain ⟨fs, v2, ea, eb, hv_v2, H⟩ := H
  refine y_next (pc' := 48) (xst_of (i := (.getfield 74)) (len := 3) rfl rfl (x_getf rfl ea eb)) ?_
  obtain ⟨b3, hn, H⟩ := H
  subst hn
  obtain ⟨⟨fs, ea⟩, H⟩ := H
  refine y_call (xst_of (i := (.invokevirtual 78)) (len := 3) rfl rfl (x_callv rfl rfl ea rfl rfl)) (H.imp (fun r h4 z => ?_))
  obtain ⟨rfl, H⟩ := z
  change xY V 49 51 _ _ h4 Q
  refine y_next (pc' := 52) (xst_of (i := (.aload_n 3)) (len := 1) rfl rfl (x_aloadV (xisV_r _) e3)) ?_
  refine y_next (pc' := 53) (xst_of (i := (.iload_n 2)) (len := 1) rfl rfl (x_ilo e2)) ?_
  obtain ⟨fs, ea, eb, H⟩ := H
  refine y_next (pc' := 56) (xst_of (i := (.putfield 66)) (len := 3) rfl rfl (x_putf rfl ea eb rfl rfl)) ?_
  generalize xwr h4 b1 (Sum.inr (2, List.set fs 1 (.int l2))) = h5 at H ⊢
  refine y_next (pc' := 57) (xst_of (i := (.iconst 1)) (len := 1) rfl rfl (x_ico (v := 1) (by decide))) ?_
  exact y_ret (xst_of (i := .ireturn) (len := 1) rfl rfl (x_zret rfl H.1)) H.2
theorem e_49 {V : xV} {l0 : Nat} {l1 : Int32} {l2 : Int32} {h : xH} {Q : xQ → xH → Prop} (H : B_49_0 V l0 l1 l2 h Q) : xY V 49 0 [(0, .ref l0), (1, .int l1), (2, .int l2)] [] h Q := H _ rfl rfl rfl
/-! 50: RegionYard$Program.addFunction(I)I -/
def B_50_0 (V : xV) (l0 : Nat) (l1 : Int32) (h : xH) (Q : xQ → xH → Prop) : Prop := ∀ lv : xL, xlk lv 0 = some (.ref l0) → xlk lv 1 = some (.int l1) → xY V 50 0 lv [] h Q
def B_50_17 (V : xV) (l0 : Nat) (l1 : Int32) (h : xH) (Q : xQ → xH → Prop) : Prop := ∀ lv : xL, xlk lv 0 = some (.ref l0) → xlk lv 1 = some (.int l1) → xY V 50 17 lv [] h Q
theorem b_50_0 {V : xV} {l0 : Nat} {l1 : Int32} {h : xH} {Q : xQ → xH → Prop} (H : gI h l0 5 6 (fun x1 => ((8 ≤ x1) → B_50_17 V l0 l1 h Q) ∧ (¬ (8 ≤ x1) → isO h l0 5 <| xY V 42 0 [(0, .ref l0), (1, .int l1)] [] h (fun r h2 => ∃ x3, r = .inl (some (.int x3)) ∧ ((¬ x3 = 0) → gV h2 l0 5 3 (fun v4 => gI h2 l0 5 6 (fun x5 => ∀ (q6 : Nat) (h7 : xH), q6 = h2.2.1 → h7 = xalc h2 (.inr (0, [.int 0, .null, .int 0])) 3 → xY V 0 0 [(0, .ref q6), (1, .int l1)] [] h7 (fun r h8 => r = .inl none ∧ isR v4 (fun b9 => sR h8 b9 x5 q6 (fun h10 => gI h10 l0 5 6 (fun x11 => pF h10 l0 5 6 (.int (x11 + 1)) (fun h12 => gI h12 l0 5 6 (fun x13 => Q (.inl (some (.int (x13 - 1)))) h12))))))))) ∧ (¬ (¬ x3 = 0) → B_50_17 V l0 l1 h2 Q))))) : B_50_0 V l0 l1 h Q := by
  intro lv e0 e1
  refine y_next (pc' := 1) (xst_of (i := (.aload_n 0)) (len := 1) rfl rfl (x_aloadV (xisV_r _) e0)) ?_
  obtain ⟨fs, x1, ea, eb, H⟩ := H
  refine y_next (pc' := 4) (xst_of (i := (.getfield 46)) (len := 3) rfl rfl (x_getf rfl ea eb)) ?_
  refine y_next (pc' := 6) (xst_of (i := (.bipush 8)) (len := 2) rfl rfl (x_bip (v := 8) (by decide))) ?_
  by_cases hc : 8 ≤ x1
  · replace H := H.1 hc
    refine y_next (xst_of (i := (.if_icmp .ge 11)) (len := 3) rfl rfl (xt_icmp_ge (t := 17) rfl hc)) ?_
    exact H _ e0 e1
  · replace H := H.2 hc
    refine y_next (pc' := 9) (xst_of (i := (.if_icmp .ge 11)) (len := 3) rfl rfl (xf_icmp_ge (t := 17) rfl hc)) ?_
    refine y_next (pc' := 10) (xst_of (i := (.aload_n 0)) (len := 1) rfl rfl (x_aloadV (xisV_r _) e0)) ?_
    refine y_next (pc' := 11) (xst_of (i := (.iload_n 1)) (len := 1) rfl rfl (x_ilo e1)) ?_
    obtain ⟨⟨fs, ea⟩, H⟩ := H
    refine y_call (xst_of (i := (.invokevirtual 69)) (len := 3) rfl rfl (x_callv rfl rfl ea rfl rfl)) (H.imp (fun r h2 z => ?_))
    obtain ⟨x3, rfl, H⟩ := z
    change xY V 50 14 _ _ h2 Q
    by_cases hc : ¬ x3 = 0
    · replace H := H.1 hc
      refine y_next (xst_of (i := (.ifCond .ne 5)) (len := 3) rfl rfl (xt_if_ne (t := 19) rfl hc)) ?_
      refine y_next (pc' := 20) (xst_of (i := (.aload_n 0)) (len := 1) rfl rfl (x_aloadV (xisV_r _) e0)) ?_
      obtain ⟨fs, v4, ea, eb, hv_v4, H⟩ := H
      refine y_next (pc' := 23) (xst_of (i := (.getfield 23)) (len := 3) rfl rfl (x_getf rfl ea eb)) ?_
      refine y_next (pc' := 24) (xst_of (i := (.aload_n 0)) (len := 1) rfl rfl (x_aloadV (xisV_r _) e0)) ?_
      obtain ⟨fs, x5, ea, eb, H⟩ := H
      refine y_next (pc' := 27) (xst_of (i := (.getfield 46)) (len := 3) rfl rfl (x_getf rfl ea eb)) ?_
      refine y_next (pc' := 30) (h' := xalc h2 (.inr (0, [.int 0, .null, .int 0])) 3) (xst_of (i := (.new 21)) (len := 3) rfl rfl rfl) ?_
      obtain ⟨q6, hq⟩ : ∃ z, z = h2.2.1 := ⟨_, rfl⟩
      obtain ⟨h7, hh⟩ : ∃ z, z = xalc h2 (.inr (0, [.int 0, .null, .int 0])) 3 := ⟨_, rfl⟩
      replace H := H q6 h7 hq hh
      rw [← hq, ← hh]
      refine y_next (pc' := 31) (xst_of (i := .dup) (len := 1) rfl rfl (x_dup rfl)) ?_
      refine y_next (pc' := 32) (xst_of (i := (.iload_n 1)) (len := 1) rfl rfl (x_ilo e1)) ?_
      refine y_call (xst_of (i := (.invokespecial 43)) (len := 3) rfl rfl rfl) (H.imp (fun r h8 z => ?_))
      obtain ⟨rfl, H⟩ := z
      change xY V 50 35 _ _ h8 Q
      obtain ⟨b9, hn, H⟩ := H
      subst hn
      obtain ⟨k, n, f, vs, ea, eb, ec, ed, H⟩ := H
      refine y_next (pc' := 36) (xst_of (i := .aastore) (len := 1) rfl rfl (x_aast ea eb ed)) ?_
      generalize xwr h8 b9 (.inl (k, n, .inr (.inr (.inr (.inr (va_up f (Int32.toNatClampNeg x5) (some q6))))))) = h10 at H ⊢
      refine y_next (pc' := 37) (xst_of (i := (.aload_n 0)) (len := 1) rfl rfl (x_aloadV (xisV_r _) e0)) ?_
      refine y_next (pc' := 38) (xst_of (i := .dup) (len := 1) rfl rfl (x_dup rfl)) ?_
      obtain ⟨fs, x11, ea, eb, H⟩ := H
      refine y_next (pc' := 41) (xst_of (i := (.getfield 46)) (len := 3) rfl rfl (x_getf rfl ea eb)) ?_
      refine y_next (pc' := 42) (xst_of (i := (.iconst 1)) (len := 1) rfl rfl (x_ico (v := 1) (by decide))) ?_
      refine y_next (pc' := 43) (xst_of (i := .iadd) (len := 1) rfl rfl rfl) ?_
      obtain ⟨fs, ea, eb, H⟩ := H
      refine y_next (pc' := 46) (xst_of (i := (.putfield 46)) (len := 3) rfl rfl (x_putf rfl ea eb rfl rfl)) ?_
      generalize xwr h10 l0 (Sum.inr (5, List.set fs 6 (.int (x11 + 1)))) = h12 at H ⊢
      refine y_next (pc' := 47) (xst_of (i := (.aload_n 0)) (len := 1) rfl rfl (x_aloadV (xisV_r _) e0)) ?_
      obtain ⟨fs, x13, ea, eb, H⟩ := H
      refine y_next (pc' := 50) (xst_of (i := (.getfield 46)) (len := 3) rfl rfl (x_getf rfl ea eb)) ?_
      refine y_next (pc' := 51) (xst_of (i := (.iconst 1)) (len := 1) rfl rfl (x_ico (v := 1) (by decide))) ?_
      refine y_next (pc' := 52) (xst_of (i := .isub) (len := 1) rfl rfl rfl) ?_
      exact y_ret (xst_of (i := .ireturn) (len := 1) rfl rfl rfl) H
    · replace H := H.2 hc
      refine y_next (pc' := 17) (xst_of (i := (.ifCond .ne 5)) (len := 3) rfl rfl (xf_if_ne (t := 19) rfl hc)) ?_
      exact H _ e0 e1
theorem b_50_17 {V : xV} {l0 : Nat} {l1 : Int32} {h : xH} {Q : xQ → xH → Prop} (H : Q (.inl (some (.int (-1)))) h) : B_50_17 V l0 l1 h Q := by
  intro lv e0 e1
  refine y_next (pc' := 18) (xst_of (i := (.iconst (-1))) (len := 1) rfl rfl (x_ico (v := (-1)) (by decide))) ?_
  exact y_ret (xst_of (i := .ireturn) (len := 1) rfl rfl rfl) H
theorem e_50 {V : xV} {l0 : Nat} {l1 : Int32} {h : xH} {Q : xQ → xH → Prop} (H : B_50_0 V l0 l1 h Q) : xY V 50 0 [(0, .ref l0), (1, .int l1)] [] h Q := H _ rfl rfl
/-! 51: RegionYard$Program.addLink(ILRegionYard$Function;LRegionYard$Label;)I -/
def B_51_0 (V : xV) (l0 : Nat) (l1 : Int32) (l2 : Value) (l3 : Value) (h : xH) (Q : xQ → xH → Prop) : Prop := ∀ lv : xL, xlk lv 0 = some (.ref l0) → xlk lv 1 = some (.int l1) → xlk lv 2 = some (l2) → xlk lv 3 = some (l3) → xisV l2 → xisV l3 → xY V 51 0 lv [] h Q
theorem b_51_0 {V : xV} {l0 : Nat} {l1 : Int32} {l2 : Value} {l3 : Value} {h : xH} {Q : xQ → xH → Prop} (H : gI h l0 5 7 (fun x1 => ((x1 < 8) → gV h l0 5 4 (fun v2 => gI h l0 5 7 (fun x3 => ∀ (q4 : Nat) (h5 : xH), q4 = h.2.1 → h5 = xalc h (.inr (3, [.int 0, .null, .null])) 3 → xY V 28 0 [(0, .ref q4), (1, .int l1), (2, l2), (3, l3)] [] h5 (fun r h6 => r = .inl none ∧ isR v2 (fun b7 => sR h6 b7 x3 q4 (fun h8 => gI h8 l0 5 7 (fun x9 => pF h8 l0 5 7 (.int (x9 + 1)) (fun h10 => gI h10 l0 5 7 (fun x11 => Q (.inl (some (.int (x11 - 1)))) h10))))))))) ∧ (¬ (x1 < 8) → Q (.inl (some (.int (-1)))) h))) : B_51_0 V l0 l1 l2 l3 h Q := by
  intro lv e0 e1 e2 e3 hv_l2 hv_l3
  refine y_next (pc' := 1) (xst_of (i := (.aload_n 0)) (len := 1) rfl rfl (x_aloadV (xisV_r _) e0)) ?_
  obtain ⟨fs, x1, ea, eb, H⟩ := H
  refine y_next (pc' := 4) (xst_of (i := (.getfield 52)) (len := 3) rfl rfl (x_getf rfl ea eb)) ?_
  refine y_next (pc' := 6) (xst_of (i := (.bipush 8)) (len := 2) rfl rfl (x_bip (v := 8) (by decide))) ?_
  by_cases hc : x1 < 8
  · replace H := H.1 hc
    refine y_next (xst_of (i := (.if_icmp .lt 5)) (len := 3) rfl rfl (xt_icmp_lt (t := 11) rfl hc)) ?_
    refine y_next (pc' := 12) (xst_of (i := (.aload_n 0)) (len := 1) rfl rfl (x_aloadV (xisV_r _) e0)) ?_
    obtain ⟨fs, v2, ea, eb, hv_v2, H⟩ := H
    refine y_next (pc' := 15) (xst_of (i := (.getfield 29)) (len := 3) rfl rfl (x_getf rfl ea eb)) ?_
    refine y_next (pc' := 16) (xst_of (i := (.aload_n 0)) (len := 1) rfl rfl (x_aloadV (xisV_r _) e0)) ?_
    obtain ⟨fs, x3, ea, eb, H⟩ := H
    refine y_next (pc' := 19) (xst_of (i := (.getfield 52)) (len := 3) rfl rfl (x_getf rfl ea eb)) ?_
    refine y_next (pc' := 22) (h' := xalc h (.inr (3, [.int 0, .null, .null])) 3) (xst_of (i := (.new 27)) (len := 3) rfl rfl rfl) ?_
    obtain ⟨q4, hq⟩ : ∃ z, z = h.2.1 := ⟨_, rfl⟩
    obtain ⟨h5, hh⟩ : ∃ z, z = xalc h (.inr (3, [.int 0, .null, .null])) 3 := ⟨_, rfl⟩
    replace H := H q4 h5 hq hh
    rw [← hq, ← hh]
    refine y_next (pc' := 23) (xst_of (i := .dup) (len := 1) rfl rfl (x_dup rfl)) ?_
    refine y_next (pc' := 24) (xst_of (i := (.iload_n 1)) (len := 1) rfl rfl (x_ilo e1)) ?_
    refine y_next (pc' := 25) (xst_of (i := (.aload_n 2)) (len := 1) rfl rfl (x_aloadV (hv_l2) e2)) ?_
    refine y_next (pc' := 26) (xst_of (i := (.aload_n 3)) (len := 1) rfl rfl (x_aloadV (hv_l3) e3)) ?_
    refine y_call (xst_of (i := (.invokespecial 83)) (len := 3) rfl rfl rfl) (H.imp (fun r h6 z => ?_))
    obtain ⟨rfl, H⟩ := z
    change xY V 51 29 _ _ h6 Q
    obtain ⟨b7, hn, H⟩ := H
    subst hn
    obtain ⟨k, n, f, vs, ea, eb, ec, ed, H⟩ := H
    refine y_next (pc' := 30) (xst_of (i := .aastore) (len := 1) rfl rfl (x_aast ea eb ed)) ?_
    generalize xwr h6 b7 (.inl (k, n, .inr (.inr (.inr (.inr (va_up f (Int32.toNatClampNeg x3) (some q4))))))) = h8 at H ⊢
    refine y_next (pc' := 31) (xst_of (i := (.aload_n 0)) (len := 1) rfl rfl (x_aloadV (xisV_r _) e0)) ?_
    refine y_next (pc' := 32) (xst_of (i := .dup) (len := 1) rfl rfl (x_dup rfl)) ?_
    obtain ⟨fs, x9, ea, eb, H⟩ := H
    refine y_next (pc' := 35) (xst_of (i := (.getfield 52)) (len := 3) rfl rfl (x_getf rfl ea eb)) ?_
    refine y_next (pc' := 36) (xst_of (i := (.iconst 1)) (len := 1) rfl rfl (x_ico (v := 1) (by decide))) ?_
    refine y_next (pc' := 37) (xst_of (i := .iadd) (len := 1) rfl rfl rfl) ?_
    obtain ⟨fs, ea, eb, H⟩ := H
    refine y_next (pc' := 40) (xst_of (i := (.putfield 52)) (len := 3) rfl rfl (x_putf rfl ea eb rfl rfl)) ?_
    generalize xwr h8 l0 (Sum.inr (5, List.set fs 7 (.int (x9 + 1)))) = h10 at H ⊢
    refine y_next (pc' := 41) (xst_of (i := (.aload_n 0)) (len := 1) rfl rfl (x_aloadV (xisV_r _) e0)) ?_
    obtain ⟨fs, x11, ea, eb, H⟩ := H
    refine y_next (pc' := 44) (xst_of (i := (.getfield 52)) (len := 3) rfl rfl (x_getf rfl ea eb)) ?_
    refine y_next (pc' := 45) (xst_of (i := (.iconst 1)) (len := 1) rfl rfl (x_ico (v := 1) (by decide))) ?_
    refine y_next (pc' := 46) (xst_of (i := .isub) (len := 1) rfl rfl rfl) ?_
    exact y_ret (xst_of (i := .ireturn) (len := 1) rfl rfl rfl) H
  · replace H := H.2 hc
    refine y_next (pc' := 9) (xst_of (i := (.if_icmp .lt 5)) (len := 3) rfl rfl (xf_icmp_lt (t := 11) rfl hc)) ?_
    refine y_next (pc' := 10) (xst_of (i := (.iconst (-1))) (len := 1) rfl rfl (x_ico (v := (-1)) (by decide))) ?_
    exact y_ret (xst_of (i := .ireturn) (len := 1) rfl rfl rfl) H
theorem e_51 {V : xV} {l0 : Nat} {l1 : Int32} {l2 : Value} {l3 : Value} {h : xH} {Q : xQ → xH → Prop} (hv_l2 : xisV l2) (hv_l3 : xisV l3) (H : B_51_0 V l0 l1 l2 l3 h Q) : xY V 51 0 [(0, .ref l0), (1, .int l1), (2, l2), (3, l3)] [] h Q := H _ rfl rfl rfl rfl hv_l2 hv_l3
/-! 52: RegionYard$Program.close(I)V -/
def B_52_0 (V : xV) (l0 : Nat) (l1 : Int32) (h : xH) (Q : xQ → xH → Prop) : Prop := ∀ lv : xL, xlk lv 0 = some (.ref l0) → xlk lv 1 = some (.int l1) → xY V 52 0 lv [] h Q
def B_52_15 (V : xV) (l0 : Nat) (l1 : Int32) (s0 : Nat) (s1 : Int32) (h : xH) (Q : xQ → xH → Prop) : Prop := ∀ lv : xL, xlk lv 0 = some (.ref l0) → xlk lv 1 = some (.int l1) → xY V 52 15 lv [.int s1, .ref s0] h Q
def B_52_30 (V : xV) (l0 : Nat) (l1 : Int32) (h : xH) (Q : xQ → xH → Prop) : Prop := ∀ lv : xL, xlk lv 0 = some (.ref l0) → xlk lv 1 = some (.int l1) → xY V 52 30 lv [] h Q
theorem b_52_0 {V : xV} {l0 : Nat} {l1 : Int32} {h : xH} {Q : xQ → xH → Prop} (H : pF h l0 5 9 (.int l1) (fun h1 => ((¬ l1 = 0) → B_52_15 V l0 l1 l0 2 h1 Q) ∧ (¬ (¬ l1 = 0) → B_52_15 V l0 l1 l0 1 h1 Q))) : B_52_0 V l0 l1 h Q := by
  intro lv e0 e1
  refine y_next (pc' := 1) (xst_of (i := (.aload_n 0)) (len := 1) rfl rfl (x_aloadV (xisV_r _) e0)) ?_
  refine y_next (pc' := 2) (xst_of (i := (.iload_n 1)) (len := 1) rfl rfl (x_ilo e1)) ?_
  obtain ⟨fs, ea, eb, H⟩ := H
  refine y_next (pc' := 5) (xst_of (i := (.putfield 37)) (len := 3) rfl rfl (x_putf rfl ea eb rfl rfl)) ?_
  generalize xwr h l0 (Sum.inr (5, List.set fs 9 (.int l1))) = h1 at H ⊢
  refine y_next (pc' := 6) (xst_of (i := (.aload_n 0)) (len := 1) rfl rfl (x_aloadV (xisV_r _) e0)) ?_
  refine y_next (pc' := 7) (xst_of (i := (.iload_n 1)) (len := 1) rfl rfl (x_ilo e1)) ?_
  by_cases hc : ¬ l1 = 0
  · replace H := H.1 hc
    refine y_next (xst_of (i := (.ifCond .ne 7)) (len := 3) rfl rfl (xt_if_ne (t := 14) rfl hc)) ?_
    refine y_next (pc' := 15) (xst_of (i := (.iconst 2)) (len := 1) rfl rfl (x_ico (v := 2) (by decide))) ?_
    exact H _ e0 e1
  · replace H := H.2 hc
    refine y_next (pc' := 10) (xst_of (i := (.ifCond .ne 7)) (len := 3) rfl rfl (xf_if_ne (t := 14) rfl hc)) ?_
    refine y_next (pc' := 11) (xst_of (i := (.iconst 1)) (len := 1) rfl rfl (x_ico (v := 1) (by decide))) ?_
    refine y_next (pc' := 15) (xst_of (i := (.goto 4)) (len := 3) rfl rfl rfl) ?_
    exact H _ e0 e1
theorem b_52_15 {V : xV} {l0 : Nat} {l1 : Int32} {s0 : Nat} {s1 : Int32} {h : xH} {Q : xQ → xH → Prop} (H : pF h s0 5 8 (.int s1) (fun h1 => gI h1 l0 5 8 (fun x2 => ((¬ x2 = 1) → B_52_30 V l0 l1 h1 Q) ∧ (¬ (¬ x2 = 1) → isO h1 l0 5 <| xY V 54 0 [(0, .ref l0)] [] h1 (fun r h3 => r = .inl none ∧ B_52_30 V l0 l1 h3 Q))))) : B_52_15 V l0 l1 s0 s1 h Q := by
  intro lv e0 e1
  obtain ⟨fs, ea, eb, H⟩ := H
  refine y_next (pc' := 18) (xst_of (i := (.putfield 33)) (len := 3) rfl rfl (x_putf rfl ea eb rfl rfl)) ?_
  generalize xwr h s0 (Sum.inr (5, List.set fs 8 (.int s1))) = h1 at H ⊢
  refine y_next (pc' := 19) (xst_of (i := (.aload_n 0)) (len := 1) rfl rfl (x_aloadV (xisV_r _) e0)) ?_
  obtain ⟨fs, x2, ea, eb, H⟩ := H
  refine y_next (pc' := 22) (xst_of (i := (.getfield 33)) (len := 3) rfl rfl (x_getf rfl ea eb)) ?_
  refine y_next (pc' := 23) (xst_of (i := (.iconst 1)) (len := 1) rfl rfl (x_ico (v := 1) (by decide))) ?_
  by_cases hc : ¬ x2 = 1
  · replace H := H.1 hc
    refine y_next (xst_of (i := (.if_icmp .ne 7)) (len := 3) rfl rfl (xt_icmp_ne (t := 30) rfl hc)) ?_
    exact H _ e0 e1
  · replace H := H.2 hc
    refine y_next (pc' := 26) (xst_of (i := (.if_icmp .ne 7)) (len := 3) rfl rfl (xf_icmp_ne (t := 30) rfl hc)) ?_
    refine y_next (pc' := 27) (xst_of (i := (.aload_n 0)) (len := 1) rfl rfl (x_aloadV (xisV_r _) e0)) ?_
    obtain ⟨⟨fs, ea⟩, H⟩ := H
    refine y_call (xst_of (i := (.invokevirtual 86)) (len := 3) rfl rfl (x_callv rfl rfl ea rfl rfl)) (H.imp (fun r h3 z => ?_))
    obtain ⟨rfl, H⟩ := z
    change xY V 52 30 _ _ h3 Q
    exact H _ e0 e1
theorem b_52_30 {V : xV} {l0 : Nat} {l1 : Int32} {h : xH} {Q : xQ → xH → Prop} (H : Q (.inl none) h) : B_52_30 V l0 l1 h Q := by
  intro lv e0 e1
  exact y_ret (xst_of (i := .return_) (len := 1) rfl rfl rfl) H
theorem e_52 {V : xV} {l0 : Nat} {l1 : Int32} {h : xH} {Q : xQ → xH → Prop} (H : B_52_0 V l0 l1 h Q) : xY V 52 0 [(0, .ref l0), (1, .int l1)] [] h Q := H _ rfl rfl
/-! 53: RegionYard$Program.depth()I -/
def B_53_0 (V : xV) (l0 : Nat) (h : xH) (Q : xQ → xH → Prop) : Prop := ∀ lv : xL, xlk lv 0 = some (.ref l0) → xY V 53 0 lv [] h Q
def B_53_18 (V : xV) (l0 : Nat) (l1 : Value) (s0 : Int32) (h : xH) (Q : xQ → xH → Prop) : Prop := ∀ lv : xL, xlk lv 0 = some (.ref l0) → xlk lv 1 = some (l1) → xisV l1 → xY V 53 18 lv [.int s0] h Q
theorem b_53_0 {V : xV} {l0 : Nat} {h : xH} {Q : xQ → xH → Prop} (H : isO h l0 5 <| xY V 45 0 [(0, .ref l0), (1, .int 0)] [] h (fun r h1 => ∃ v2, r = .inl (some (v2)) ∧ xisV v2 ∧ isN v2 (B_53_18 V l0 .null 0 h1 Q) (fun b3 => gI h1 b3 0 2 (fun x4 => B_53_18 V l0 (.ref b3) x4 h1 Q)))) : B_53_0 V l0 h Q := by
  intro lv e0
  refine y_next (pc' := 1) (xst_of (i := (.aload_n 0)) (len := 1) rfl rfl (x_aloadV (xisV_r _) e0)) ?_
  refine y_next (pc' := 2) (xst_of (i := (.iconst 0)) (len := 1) rfl rfl (x_ico (v := 0) (by decide))) ?_
  obtain ⟨⟨fs, ea⟩, H⟩ := H
  refine y_call (xst_of (i := (.invokevirtual 55)) (len := 3) rfl rfl (x_callv rfl rfl ea rfl rfl)) (H.imp (fun r h1 z => ?_))
  obtain ⟨v2, rfl, hv_v2, H⟩ := z
  change xY V 53 5 _ _ h1 Q
  refine y_next (pc' := 6) (xst_of (i := (.astore_n 1)) (len := 1) rfl rfl (x_astoreV (hv_v2) (by decide))) ?_
  have e0 := xs1_b (i := 1) (v := v2) e0 (by decide) rfl
  have e1 := xs1_n (lv := _) (i := 1) (v := v2)
  refine y_next (pc' := 7) (xst_of (i := (.aload_n 1)) (len := 1) rfl rfl (x_aloadV (hv_v2) e1)) ?_
  rcases hv_v2 with hn | ⟨b3, hn⟩
  · replace H := H.1 hn
    subst hn
    refine y_next (pc' := 10) (xst_of (i := (.ifnonnull 7)) (len := 3) rfl rfl rfl) ?_
    refine y_next (pc' := 11) (xst_of (i := (.iconst 0)) (len := 1) rfl rfl (x_ico (v := 0) (by decide))) ?_
    refine y_next (pc' := 18) (xst_of (i := (.goto 7)) (len := 3) rfl rfl rfl) ?_
    exact H _ e0 e1 (xisV_n)
  · replace H := H.2 b3 hn
    subst hn
    refine y_next (pc' := 14) (xst_of (i := (.ifnonnull 7)) (len := 3) rfl rfl rfl) ?_
    refine y_next (pc' := 15) (xst_of (i := (.aload_n 1)) (len := 1) rfl rfl (x_aloadV (xisV_r _) e1)) ?_
    obtain ⟨fs, x4, ea, eb, H⟩ := H
    refine y_next (pc' := 18) (xst_of (i := (.getfield 89)) (len := 3) rfl rfl (x_getf rfl ea eb)) ?_
    exact H _ e0 e1 (xisV_r _)
theorem b_53_18 {V : xV} {l0 : Nat} {l1 : Value} {s0 : Int32} {h : xH} {Q : xQ → xH → Prop} (H : Q (.inl (some (.int s0))) h) : B_53_18 V l0 l1 s0 h Q := by
  intro lv e0 e1 hv_l1
  exact y_ret (xst_of (i := .ireturn) (len := 1) rfl rfl rfl) H
theorem e_53 {V : xV} {l0 : Nat} {h : xH} {Q : xQ → xH → Prop} (H : B_53_0 V l0 h Q) : xY V 53 0 [(0, .ref l0)] [] h Q := H _ rfl
/-! 54: RegionYard$Program.measureDepths()V -/
def B_54_0 (V : xV) (l0 : Nat) (h : xH) (Q : xQ → xH → Prop) : Prop := ∀ lv : xL, xlk lv 0 = some (.ref l0) → xY V 54 0 lv [] h Q
def B_54_7 (V : xV) (l0 : Nat) (l1 : Int32) (h : xH) (Q : xQ → xH → Prop) : Prop := ∀ lv : xL, xlk lv 0 = some (.ref l0) → xlk lv 1 = some (.int l1) → xY V 54 7 lv [] h Q
def B_54_30 (V : xV) (l0 : Nat) (l1 : Int32) (l2 : Value) (h : xH) (Q : xQ → xH → Prop) : Prop := ∀ lv : xL, xlk lv 0 = some (.ref l0) → xlk lv 1 = some (.int l1) → xlk lv 2 = some (l2) → xisV l2 → xY V 54 30 lv [] h Q
theorem b_54_0 {V : xV} {l0 : Nat} {h : xH} {Q : xQ → xH → Prop} (H : gI h l0 5 6 (fun x1 => B_54_7 V l0 ((x1 - 1)) h Q)) : B_54_0 V l0 h Q := by
  intro lv e0
  refine y_next (pc' := 1) (xst_of (i := (.aload_n 0)) (len := 1) rfl rfl (x_aloadV (xisV_r _) e0)) ?_
  obtain ⟨fs, x1, ea, eb, H⟩ := H
  refine y_next (pc' := 4) (xst_of (i := (.getfield 46)) (len := 3) rfl rfl (x_getf rfl ea eb)) ?_
  refine y_next (pc' := 5) (xst_of (i := (.iconst 1)) (len := 1) rfl rfl (x_ico (v := 1) (by decide))) ?_
  refine y_next (pc' := 6) (xst_of (i := .isub) (len := 1) rfl rfl rfl) ?_
  refine y_next (pc' := 7) (xst_of (i := (.istore_n 1)) (len := 1) rfl rfl (x_ist (by decide))) ?_
  have e0 := xs1_b (i := 1) (v := .int (x1 - 1)) e0 (by decide) rfl
  have e1 := xs1_n (lv := _) (i := 1) (v := .int (x1 - 1))
  exact H _ e0 e1
theorem b_54_7 {V : xV} {l0 : Nat} {l1 : Int32} {h : xH} {Q : xQ → xH → Prop} (H : ((l1 < 0) → Q (.inl none) h) ∧ (¬ (l1 < 0) → isO h l0 5 <| xY V 45 0 [(0, .ref l0), (1, .int l1)] [] h (fun r h1 => ∃ v2, r = .inl (some (v2)) ∧ xisV v2 ∧ isN v2 (B_54_30 V l0 l1 .null h1 Q) (fun b3 => isO h1 l0 5 <| xY V 55 0 [(0, .ref l0), (1, .int l1)] [] h1 (fun r h4 => ∃ x5, r = .inl (some (.int x5)) ∧ pF h4 b3 0 2 (.int x5) (fun h6 => B_54_30 V l0 l1 (.ref b3) h6 Q)))))) : B_54_7 V l0 l1 h Q := by
  intro lv e0 e1
  refine y_next (pc' := 8) (xst_of (i := (.iload_n 1)) (len := 1) rfl rfl (x_ilo e1)) ?_
  by_cases hc : l1 < 0
  · replace H := H.1 hc
    refine y_next (xst_of (i := (.ifCond .lt 28)) (len := 3) rfl rfl (xt_if_lt (t := 36) rfl hc)) ?_
    exact y_ret (xst_of (i := .return_) (len := 1) rfl rfl rfl) H
  · replace H := H.2 hc
    refine y_next (pc' := 11) (xst_of (i := (.ifCond .lt 28)) (len := 3) rfl rfl (xf_if_lt (t := 36) rfl hc)) ?_
    refine y_next (pc' := 12) (xst_of (i := (.aload_n 0)) (len := 1) rfl rfl (x_aloadV (xisV_r _) e0)) ?_
    refine y_next (pc' := 13) (xst_of (i := (.iload_n 1)) (len := 1) rfl rfl (x_ilo e1)) ?_
    obtain ⟨⟨fs, ea⟩, H⟩ := H
    refine y_call (xst_of (i := (.invokevirtual 55)) (len := 3) rfl rfl (x_callv rfl rfl ea rfl rfl)) (H.imp (fun r h1 z => ?_))
    obtain ⟨v2, rfl, hv_v2, H⟩ := z
    change xY V 54 16 _ _ h1 Q
    refine y_next (pc' := 17) (xst_of (i := (.astore_n 2)) (len := 1) rfl rfl (x_astoreV (hv_v2) (by decide))) ?_
    have e0 := xs1_a (i := 2) (v := v2) e0 (by decide) (by decide)
    have e1 := xs1_b (i := 2) (v := v2) e1 (by decide) rfl
    have e2 := xs1_n (lv := _) (i := 2) (v := v2)
    refine y_next (pc' := 18) (xst_of (i := (.aload_n 2)) (len := 1) rfl rfl (x_aloadV (hv_v2) e2)) ?_
    rcases hv_v2 with hn | ⟨b3, hn⟩
    · replace H := H.1 hn
      subst hn
      refine y_next (pc' := 30) (xst_of (i := (.ifnull 12)) (len := 3) rfl rfl rfl) ?_
      exact H _ e0 e1 e2 (xisV_n)
    · replace H := H.2 b3 hn
      subst hn
      refine y_next (pc' := 21) (xst_of (i := (.ifnull 12)) (len := 3) rfl rfl rfl) ?_
      refine y_next (pc' := 22) (xst_of (i := (.aload_n 2)) (len := 1) rfl rfl (x_aloadV (xisV_r _) e2)) ?_
      refine y_next (pc' := 23) (xst_of (i := (.aload_n 0)) (len := 1) rfl rfl (x_aloadV (xisV_r _) e0)) ?_
      refine y_next (pc' := 24) (xst_of (i := (.iload_n 1)) (len := 1) rfl rfl (x_ilo e1)) ?_
      obtain ⟨⟨fs, ea⟩, H⟩ := H
      refine y_call (xst_of (i := (.invokevirtual 92)) (len := 3) rfl rfl (x_callv rfl rfl ea rfl rfl)) (H.imp (fun r h4 z => ?_))
      obtain ⟨x5, rfl, H⟩ := z
      change xY V 54 27 _ _ h4 Q
      obtain ⟨fs, ea, eb, H⟩ := H
      refine y_next (pc' := 30) (xst_of (i := (.putfield 89)) (len := 3) rfl rfl (x_putf rfl ea eb rfl rfl)) ?_
      generalize xwr h4 b3 (Sum.inr (0, List.set fs 2 (.int x5))) = h6 at H ⊢
      exact H _ e0 e1 e2 (xisV_r _)
theorem b_54_30 {V : xV} {l0 : Nat} {l1 : Int32} {l2 : Value} {h : xH} {Q : xQ → xH → Prop} (H : B_54_7 V l0 ((l1 + (-1))) h Q) : B_54_30 V l0 l1 l2 h Q := by
  intro lv e0 e1 e2 hv_l2
  refine y_next (pc' := 33) (xst_of (i := (.iinc 1 (-1))) (len := 3) rfl rfl (x_inc (v := (-1)) e1 (by decide) (by decide))) ?_
  have e0 := xs1_b (i := 1) (v := .int (l1 + (-1))) e0 (by decide) rfl
  have e2 := xs1_a (i := 1) (v := .int (l1 + (-1))) e2 (by decide) (by decide)
  have e1 := xs1_n (lv := _) (i := 1) (v := .int (l1 + (-1)))
  refine y_next (pc' := 7) (xst_of (i := (.goto (-26))) (len := 3) rfl rfl rfl) ?_
  exact H _ e0 e1
theorem e_54 {V : xV} {l0 : Nat} {h : xH} {Q : xQ → xH → Prop} (H : B_54_0 V l0 h Q) : xY V 54 0 [(0, .ref l0)] [] h Q := H _ rfl
/-! 55: RegionYard$Program.depthOfWords(I)I -/
def B_55_0 (V : xV) (l0 : Nat) (l1 : Int32) (h : xH) (Q : xQ → xH → Prop) : Prop := ∀ lv : xL, xlk lv 0 = some (.ref l0) → xlk lv 1 = some (.int l1) → xY V 55 0 lv [] h Q
def B_55_7 (V : xV) (l0 : Nat) (l1 : Int32) (l2 : Int32) (l3 : Int32) (l4 : Int32) (h : xH) (Q : xQ → xH → Prop) : Prop := ∀ lv : xL, xlk lv 0 = some (.ref l0) → xlk lv 1 = some (.int l1) → xlk lv 2 = some (.int l2) → xlk lv 3 = some (.int l3) → xlk lv 4 = some (.int l4) → xY V 55 7 lv [] h Q
def B_55_35 (V : xV) (l0 : Nat) (l1 : Int32) (l2 : Int32) (l3 : Int32) (l4 : Int32) (l5 : Value) (h : xH) (Q : xQ → xH → Prop) : Prop := ∀ lv : xL, xlk lv 0 = some (.ref l0) → xlk lv 1 = some (.int l1) → xlk lv 2 = some (.int l2) → xlk lv 3 = some (.int l3) → xlk lv 4 = some (.int l4) → xlk lv 5 = some (l5) → xisV l5 → xY V 55 35 lv [] h Q
def B_55_55 (V : xV) (l0 : Nat) (l1 : Int32) (l2 : Int32) (l3 : Int32) (l4 : Int32) (l5 : Value) (s0 : Value) (h : xH) (Q : xQ → xH → Prop) : Prop := ∀ lv : xL, xlk lv 0 = some (.ref l0) → xlk lv 1 = some (.int l1) → xlk lv 2 = some (.int l2) → xlk lv 3 = some (.int l3) → xlk lv 4 = some (.int l4) → xlk lv 5 = some (l5) → xisV l5 → xisV s0 → xY V 55 55 lv [s0] h Q
def B_55_74 (V : xV) (l0 : Nat) (l1 : Int32) (l2 : Int32) (l3 : Int32) (l4 : Int32) (l5 : Value) (l6 : Value) (h : xH) (Q : xQ → xH → Prop) : Prop := ∀ lv : xL, xlk lv 0 = some (.ref l0) → xlk lv 1 = some (.int l1) → xlk lv 2 = some (.int l2) → xlk lv 3 = some (.int l3) → xlk lv 4 = some (.int l4) → xlk lv 5 = some (l5) → xlk lv 6 = some (l6) → xisV l5 → xisV l6 → xY V 55 74 lv [] h Q
theorem b_55_0 {V : xV} {l0 : Nat} {l1 : Int32} {h : xH} {Q : xQ → xH → Prop} (H : B_55_7 V l0 l1 0 0 0 h Q) : B_55_0 V l0 l1 h Q := by
  intro lv e0 e1
  refine y_next (pc' := 1) (xst_of (i := (.iconst 0)) (len := 1) rfl rfl (x_ico (v := 0) (by decide))) ?_
  refine y_next (pc' := 2) (xst_of (i := (.istore_n 2)) (len := 1) rfl rfl (x_ist (by decide))) ?_
  have e0 := xs1_a (i := 2) (v := .int 0) e0 (by decide) (by decide)
  have e1 := xs1_b (i := 2) (v := .int 0) e1 (by decide) rfl
  have e2 := xs1_n (lv := _) (i := 2) (v := .int 0)
  refine y_next (pc' := 3) (xst_of (i := (.iconst 0)) (len := 1) rfl rfl (x_ico (v := 0) (by decide))) ?_
  refine y_next (pc' := 4) (xst_of (i := (.istore_n 3)) (len := 1) rfl rfl (x_ist (by decide))) ?_
  have e0 := xs1_a (i := 3) (v := .int 0) e0 (by decide) (by decide)
  have e1 := xs1_a (i := 3) (v := .int 0) e1 (by decide) (by decide)
  have e2 := xs1_b (i := 3) (v := .int 0) e2 (by decide) rfl
  have e3 := xs1_n (lv := _) (i := 3) (v := .int 0)
  refine y_next (pc' := 5) (xst_of (i := (.iconst 0)) (len := 1) rfl rfl (x_ico (v := 0) (by decide))) ?_
  refine y_next (pc' := 7) (xst_of (i := (.istore 4)) (len := 2) rfl rfl (x_ist (by decide))) ?_
  have e0 := xs1_a (i := 4) (v := .int 0) e0 (by decide) (by decide)
  have e1 := xs1_a (i := 4) (v := .int 0) e1 (by decide) (by decide)
  have e2 := xs1_a (i := 4) (v := .int 0) e2 (by decide) (by decide)
  have e3 := xs1_b (i := 4) (v := .int 0) e3 (by decide) rfl
  have e4 := xs1_n (lv := _) (i := 4) (v := .int 0)
  exact H _ e0 e1 e2 e3 e4
theorem b_55_7 {V : xV} {l0 : Nat} {l1 : Int32} {l2 : Int32} {l3 : Int32} {l4 : Int32} {h : xH} {Q : xQ → xH → Prop} (H : gI h l0 5 5 (fun x1 => ((x1 ≤ l4) → Q (.inl (some (.int l2))) h) ∧ (¬ (x1 ≤ l4) → isO h l0 5 <| xY V 44 0 [(0, .ref l0), (1, .int l4)] [] h (fun r h2 => ∃ v3, r = .inl (some (v3)) ∧ xisV v3 ∧ isN v3 (B_55_35 V l0 l1 l2 l3 l4 .null h2 Q) (fun b4 => gI h2 b4 2 1 (fun x5 => B_55_35 V l0 l1 l2 x5 l4 (.ref b4) h2 Q)))))) : B_55_7 V l0 l1 l2 l3 l4 h Q := by
  intro lv e0 e1 e2 e3 e4
  refine y_next (pc' := 9) (xst_of (i := (.iload 4)) (len := 2) rfl rfl (x_ilo e4)) ?_
  refine y_next (pc' := 10) (xst_of (i := (.aload_n 0)) (len := 1) rfl rfl (x_aloadV (xisV_r _) e0)) ?_
  obtain ⟨fs, x1, ea, eb, H⟩ := H
  refine y_next (pc' := 13) (xst_of (i := (.getfield 49)) (len := 3) rfl rfl (x_getf rfl ea eb)) ?_
  by_cases hc : x1 ≤ l4
  · replace H := H.1 hc
    refine y_next (xst_of (i := (.if_icmp .ge 67)) (len := 3) rfl rfl (xt_icmp_ge (t := 80) rfl hc)) ?_
    refine y_next (pc' := 81) (xst_of (i := (.iload_n 2)) (len := 1) rfl rfl (x_ilo e2)) ?_
    exact y_ret (xst_of (i := .ireturn) (len := 1) rfl rfl rfl) H
  · replace H := H.2 hc
    refine y_next (pc' := 16) (xst_of (i := (.if_icmp .ge 67)) (len := 3) rfl rfl (xf_icmp_ge (t := 80) rfl hc)) ?_
    refine y_next (pc' := 17) (xst_of (i := (.aload_n 0)) (len := 1) rfl rfl (x_aloadV (xisV_r _) e0)) ?_
    refine y_next (pc' := 19) (xst_of (i := (.iload 4)) (len := 2) rfl rfl (x_ilo e4)) ?_
    obtain ⟨⟨fs, ea⟩, H⟩ := H
    refine y_call (xst_of (i := (.invokevirtual 62)) (len := 3) rfl rfl (x_callv rfl rfl ea rfl rfl)) (H.imp (fun r h2 z => ?_))
    obtain ⟨v3, rfl, hv_v3, H⟩ := z
    change xY V 55 22 _ _ h2 Q
    refine y_next (pc' := 24) (xst_of (i := (.astore 5)) (len := 2) rfl rfl (x_astoreV (hv_v3) (by decide))) ?_
    have e0 := xs1_a (i := 5) (v := v3) e0 (by decide) (by decide)
    have e1 := xs1_a (i := 5) (v := v3) e1 (by decide) (by decide)
    have e2 := xs1_a (i := 5) (v := v3) e2 (by decide) (by decide)
    have e3 := xs1_a (i := 5) (v := v3) e3 (by decide) (by decide)
    have e4 := xs1_b (i := 5) (v := v3) e4 (by decide) rfl
    have e5 := xs1_n (lv := _) (i := 5) (v := v3)
    refine y_next (pc' := 26) (xst_of (i := (.aload 5)) (len := 2) rfl rfl (x_aloadV (hv_v3) e5)) ?_
    rcases hv_v3 with hn | ⟨b4, hn⟩
    · replace H := H.1 hn
      subst hn
      refine y_next (pc' := 35) (xst_of (i := (.ifnull 9)) (len := 3) rfl rfl rfl) ?_
      exact H _ e0 e1 e2 e3 e4 e5 (xisV_n)
    · replace H := H.2 b4 hn
      subst hn
      refine y_next (pc' := 29) (xst_of (i := (.ifnull 9)) (len := 3) rfl rfl rfl) ?_
      refine y_next (pc' := 31) (xst_of (i := (.aload 5)) (len := 2) rfl rfl (x_aloadV (xisV_r _) e5)) ?_
      obtain ⟨fs, x5, ea, eb, H⟩ := H
      refine y_next (pc' := 34) (xst_of (i := (.getfield 66)) (len := 3) rfl rfl (x_getf rfl ea eb)) ?_
      refine y_next (pc' := 35) (xst_of (i := (.istore_n 3)) (len := 1) rfl rfl (x_ist (by decide))) ?_
      have e0 := xs1_a (i := 3) (v := .int x5) e0 (by decide) (by decide)
      have e1 := xs1_a (i := 3) (v := .int x5) e1 (by decide) (by decide)
      have e2 := xs1_b (i := 3) (v := .int x5) e2 (by decide) rfl
      have e4 := xs1_a (i := 3) (v := .int x5) e4 (by decide) (by decide)
      have e5 := xs1_a (i := 3) (v := .int x5) e5 (by decide) (by decide)
      have e3 := xs1_n (lv := _) (i := 3) (v := .int x5)
      exact H _ e0 e1 e2 e3 e4 e5 (xisV_r _)
theorem b_55_35 {V : xV} {l0 : Nat} {l1 : Int32} {l2 : Int32} {l3 : Int32} {l4 : Int32} {l5 : Value} {h : xH} {Q : xQ → xH → Prop} (H : ((¬ l3 = l1) → B_55_55 V l0 l1 l2 l3 l4 l5 .null h Q) ∧ (¬ (¬ l3 = l1) → gV h l0 5 1 (fun v1 => isR v1 (fun b2 => aI V h b2 l4 (fun x3 => isO h l0 5 <| xY V 56 0 [(0, .ref l0), (1, .int x3)] [] h (fun r h4 => ∃ v5, r = .inl (some (v5)) ∧ xisV v5 ∧ B_55_55 V l0 l1 l2 l3 l4 l5 v5 h4 Q)))))) : B_55_35 V l0 l1 l2 l3 l4 l5 h Q := by
  intro lv e0 e1 e2 e3 e4 e5 hv_l5
  refine y_next (pc' := 36) (xst_of (i := (.iload_n 3)) (len := 1) rfl rfl (x_ilo e3)) ?_
  refine y_next (pc' := 37) (xst_of (i := (.iload_n 1)) (len := 1) rfl rfl (x_ilo e1)) ?_
  by_cases hc : ¬ l3 = l1
  · replace H := H.1 hc
    refine y_next (xst_of (i := (.if_icmp .ne 17)) (len := 3) rfl rfl (xt_icmp_ne (t := 54) rfl hc)) ?_
    refine y_next (pc' := 55) (xst_of (i := .aconst_null) (len := 1) rfl rfl rfl) ?_
    exact H _ e0 e1 e2 e3 e4 e5 (hv_l5) (xisV_n)
  · replace H := H.2 hc
    refine y_next (pc' := 40) (xst_of (i := (.if_icmp .ne 17)) (len := 3) rfl rfl (xf_icmp_ne (t := 54) rfl hc)) ?_
    refine y_next (pc' := 41) (xst_of (i := (.aload_n 0)) (len := 1) rfl rfl (x_aloadV (xisV_r _) e0)) ?_
    refine y_next (pc' := 42) (xst_of (i := (.aload_n 0)) (len := 1) rfl rfl (x_aloadV (xisV_r _) e0)) ?_
    obtain ⟨fs, v1, ea, eb, hv_v1, H⟩ := H
    refine y_next (pc' := 45) (xst_of (i := (.getfield 9)) (len := 3) rfl rfl (x_getf rfl ea eb)) ?_
    refine y_next (pc' := 47) (xst_of (i := (.iload 4)) (len := 2) rfl rfl (x_ilo e4)) ?_
    obtain ⟨b2, hn, H⟩ := H
    subst hn
    obtain ⟨n, f, ea, eb, H⟩ := H
    refine y_next (pc' := 48) (xst_of (i := .iaload) (len := 1) rfl rfl (x_iald ea eb)) ?_
    generalize f (Int32.toNatClampNeg l4) = x3 at H ⊢
    obtain ⟨⟨fs, ea⟩, H⟩ := H
    refine y_call (xst_of (i := (.invokevirtual 96)) (len := 3) rfl rfl (x_callv rfl rfl ea rfl rfl)) (H.imp (fun r h4 z => ?_))
    obtain ⟨v5, rfl, hv_v5, H⟩ := z
    change xY V 55 51 _ _ h4 Q
    refine y_next (pc' := 55) (xst_of (i := (.goto 4)) (len := 3) rfl rfl rfl) ?_
    exact H _ e0 e1 e2 e3 e4 e5 (hv_l5) (hv_v5)
theorem b_55_55 {V : xV} {l0 : Nat} {l1 : Int32} {l2 : Int32} {l3 : Int32} {l4 : Int32} {l5 : Value} {s0 : Value} {h : xH} {Q : xQ → xH → Prop} (H : isN s0 (B_55_74 V l0 l1 l2 l3 l4 l5 .null h Q) (fun b1 => gI h b1 0 2 (fun x2 => xY V 185 0 [(0, .int l2), (1, .int (x2 + 1))] [] h (fun r h3 => ∃ x4, r = .inl (some (.int x4)) ∧ B_55_74 V l0 l1 x4 l3 l4 l5 (.ref b1) h3 Q)))) : B_55_55 V l0 l1 l2 l3 l4 l5 s0 h Q := by
  intro lv e0 e1 e2 e3 e4 e5 hv_l5 hv_s0
  refine y_next (pc' := 57) (xst_of (i := (.astore 6)) (len := 2) rfl rfl (x_astoreV (hv_s0) (by decide))) ?_
  have e0 := xs1_a (i := 6) (v := s0) e0 (by decide) (by decide)
  have e1 := xs1_a (i := 6) (v := s0) e1 (by decide) (by decide)
  have e2 := xs1_a (i := 6) (v := s0) e2 (by decide) (by decide)
  have e3 := xs1_a (i := 6) (v := s0) e3 (by decide) (by decide)
  have e4 := xs1_a (i := 6) (v := s0) e4 (by decide) (by decide)
  have e5 := xs1_b (i := 6) (v := s0) e5 (by decide) (xisV_c hv_l5)
  have e6 := xs1_n (lv := _) (i := 6) (v := s0)
  refine y_next (pc' := 59) (xst_of (i := (.aload 6)) (len := 2) rfl rfl (x_aloadV (hv_s0) e6)) ?_
  rcases hv_s0 with hn | ⟨b1, hn⟩
  · replace H := H.1 hn
    subst hn
    refine y_next (pc' := 74) (xst_of (i := (.ifnull 15)) (len := 3) rfl rfl rfl) ?_
    exact H _ e0 e1 e2 e3 e4 e5 e6 (hv_l5) (xisV_n)
  · replace H := H.2 b1 hn
    subst hn
    refine y_next (pc' := 62) (xst_of (i := (.ifnull 15)) (len := 3) rfl rfl rfl) ?_
    refine y_next (pc' := 63) (xst_of (i := (.iload_n 2)) (len := 1) rfl rfl (x_ilo e2)) ?_
    refine y_next (pc' := 65) (xst_of (i := (.aload 6)) (len := 2) rfl rfl (x_aloadV (xisV_r _) e6)) ?_
    obtain ⟨fs, x2, ea, eb, H⟩ := H
    refine y_next (pc' := 68) (xst_of (i := (.getfield 89)) (len := 3) rfl rfl (x_getf rfl ea eb)) ?_
    refine y_next (pc' := 69) (xst_of (i := (.iconst 1)) (len := 1) rfl rfl (x_ico (v := 1) (by decide))) ?_
    refine y_next (pc' := 70) (xst_of (i := .iadd) (len := 1) rfl rfl rfl) ?_
    refine y_call (xst_of (i := (.invokestatic 99)) (len := 3) rfl rfl rfl) (H.imp (fun r h3 z => ?_))
    obtain ⟨x4, rfl, H⟩ := z
    change xY V 55 73 _ _ h3 Q
    refine y_next (pc' := 74) (xst_of (i := (.istore_n 2)) (len := 1) rfl rfl (x_ist (by decide))) ?_
    have e0 := xs1_a (i := 2) (v := .int x4) e0 (by decide) (by decide)
    have e1 := xs1_b (i := 2) (v := .int x4) e1 (by decide) rfl
    have e3 := xs1_a (i := 2) (v := .int x4) e3 (by decide) (by decide)
    have e4 := xs1_a (i := 2) (v := .int x4) e4 (by decide) (by decide)
    have e5 := xs1_a (i := 2) (v := .int x4) e5 (by decide) (by decide)
    have e6 := xs1_a (i := 2) (v := .int x4) e6 (by decide) (by decide)
    have e2 := xs1_n (lv := _) (i := 2) (v := .int x4)
    exact H _ e0 e1 e2 e3 e4 e5 e6 (hv_l5) (xisV_r _)
theorem b_55_74 {V : xV} {l0 : Nat} {l1 : Int32} {l2 : Int32} {l3 : Int32} {l4 : Int32} {l5 : Value} {l6 : Value} {h : xH} {Q : xQ → xH → Prop} (H : B_55_7 V l0 l1 l2 l3 ((l4 + 1)) h Q) : B_55_74 V l0 l1 l2 l3 l4 l5 l6 h Q := by
  intro lv e0 e1 e2 e3 e4 e5 e6 hv_l5 hv_l6
  refine y_next (pc' := 77) (xst_of (i := (.iinc 4 1)) (len := 3) rfl rfl (x_inc (v := 1) e4 (by decide) (by decide))) ?_
  have e0 := xs1_a (i := 4) (v := .int (l4 + 1)) e0 (by decide) (by decide)
  have e1 := xs1_a (i := 4) (v := .int (l4 + 1)) e1 (by decide) (by decide)
  have e2 := xs1_a (i := 4) (v := .int (l4 + 1)) e2 (by decide) (by decide)
  have e3 := xs1_b (i := 4) (v := .int (l4 + 1)) e3 (by decide) rfl
  have e5 := xs1_a (i := 4) (v := .int (l4 + 1)) e5 (by decide) (by decide)
  have e6 := xs1_a (i := 4) (v := .int (l4 + 1)) e6 (by decide) (by decide)
  have e4 := xs1_n (lv := _) (i := 4) (v := .int (l4 + 1))
  refine y_next (pc' := 7) (xst_of (i := (.goto (-70))) (len := 3) rfl rfl rfl) ?_
  exact H _ e0 e1 e2 e3 e4
theorem e_55 {V : xV} {l0 : Nat} {l1 : Int32} {h : xH} {Q : xQ → xH → Prop} (H : B_55_0 V l0 l1 h Q) : xY V 55 0 [(0, .ref l0), (1, .int l1)] [] h Q := H _ rfl rfl
/-! 56: RegionYard$Program.calleeOf(I)LRegionYard$Function; -/
def B_56_0 (V : xV) (l0 : Nat) (l1 : Int32) (h : xH) (Q : xQ → xH → Prop) : Prop := ∀ lv : xL, xlk lv 0 = some (.ref l0) → xlk lv 1 = some (.int l1) → xY V 56 0 lv [] h Q
def B_56_39 (V : xV) (l0 : Nat) (l1 : Int32) (s0 : Value) (h : xH) (Q : xQ → xH → Prop) : Prop := ∀ lv : xL, xlk lv 0 = some (.ref l0) → xlk lv 1 = some (.int l1) → xisV s0 → xY V 56 39 lv [s0] h Q
def B_56_52 (V : xV) (l0 : Nat) (l1 : Int32) (l2 : Value) (s0 : Value) (h : xH) (Q : xQ → xH → Prop) : Prop := ∀ lv : xL, xlk lv 0 = some (.ref l0) → xlk lv 1 = some (.int l1) → xlk lv 2 = some (l2) → xisV l2 → xisV s0 → xY V 56 52 lv [s0] h Q
theorem b_56_0 {V : xV} {l0 : Nat} {l1 : Int32} {h : xH} {Q : xQ → xH → Prop} (H : xY V 117 0 [(0, .int l1)] [] h (fun r h1 => ∃ x2, r = .inl (some (.int x2)) ∧ ((¬ x2 = 18) → xY V 117 0 [(0, .int l1)] [] h1 (fun r h3 => ∃ x4, r = .inl (some (.int x4)) ∧ ((¬ x4 = 19) → B_56_39 V l0 l1 .null h3 Q) ∧ (¬ (¬ x4 = 19) → xY V 121 0 [(0, .int l1)] [] h3 (fun r h5 => ∃ x6, r = .inl (some (.int x6)) ∧ isO h5 l0 5 <| xY V 46 0 [(0, .ref l0), (1, .int x6)] [] h5 (fun r h7 => ∃ v8, r = .inl (some (v8)) ∧ xisV v8 ∧ B_56_39 V l0 l1 v8 h7 Q))))) ∧ (¬ (¬ x2 = 18) → xY V 121 0 [(0, .int l1)] [] h1 (fun r h9 => ∃ x10, r = .inl (some (.int x10)) ∧ isO h9 l0 5 <| xY V 45 0 [(0, .ref l0), (1, .int x10)] [] h9 (fun r h11 => ∃ v12, r = .inl (some (v12)) ∧ xisV v12 ∧ Q (.inl (some (v12))) h11))))) : B_56_0 V l0 l1 h Q := by
  intro lv e0 e1
  refine y_next (pc' := 1) (xst_of (i := (.iload_n 1)) (len := 1) rfl rfl (x_ilo e1)) ?_
  refine y_call (xst_of (i := (.invokestatic 105)) (len := 3) rfl rfl rfl) (H.imp (fun r h1 z => ?_))
  obtain ⟨x2, rfl, H⟩ := z
  change xY V 56 4 _ _ h1 Q
  refine y_next (pc' := 6) (xst_of (i := (.bipush 18)) (len := 2) rfl rfl (x_bip (v := 18) (by decide))) ?_
  by_cases hc : ¬ x2 = 18
  · replace H := H.1 hc
    refine y_next (xst_of (i := (.if_icmp .ne 12)) (len := 3) rfl rfl (xt_icmp_ne (t := 18) rfl hc)) ?_
    refine y_next (pc' := 19) (xst_of (i := (.iload_n 1)) (len := 1) rfl rfl (x_ilo e1)) ?_
    refine y_call (xst_of (i := (.invokestatic 105)) (len := 3) rfl rfl rfl) (H.imp (fun r h3 z => ?_))
    obtain ⟨x4, rfl, H⟩ := z
    change xY V 56 22 _ _ h3 Q
    refine y_next (pc' := 24) (xst_of (i := (.bipush 19)) (len := 2) rfl rfl (x_bip (v := 19) (by decide))) ?_
    by_cases hc : ¬ x4 = 19
    · replace H := H.1 hc
      refine y_next (xst_of (i := (.if_icmp .ne 14)) (len := 3) rfl rfl (xt_icmp_ne (t := 38) rfl hc)) ?_
      refine y_next (pc' := 39) (xst_of (i := .aconst_null) (len := 1) rfl rfl rfl) ?_
      exact H _ e0 e1 (xisV_n)
    · replace H := H.2 hc
      refine y_next (pc' := 27) (xst_of (i := (.if_icmp .ne 14)) (len := 3) rfl rfl (xf_icmp_ne (t := 38) rfl hc)) ?_
      refine y_next (pc' := 28) (xst_of (i := (.aload_n 0)) (len := 1) rfl rfl (x_aloadV (xisV_r _) e0)) ?_
      refine y_next (pc' := 29) (xst_of (i := (.iload_n 1)) (len := 1) rfl rfl (x_ilo e1)) ?_
      refine y_call (xst_of (i := (.invokestatic 108)) (len := 3) rfl rfl rfl) (H.imp (fun r h5 z => ?_))
      obtain ⟨x6, rfl, H⟩ := z
      change xY V 56 32 _ _ h5 Q
      obtain ⟨⟨fs, ea⟩, H⟩ := H
      refine y_call (xst_of (i := (.invokevirtual 111)) (len := 3) rfl rfl (x_callv rfl rfl ea rfl rfl)) (H.imp (fun r h7 z => ?_))
      obtain ⟨v8, rfl, hv_v8, H⟩ := z
      change xY V 56 35 _ _ h7 Q
      refine y_next (pc' := 39) (xst_of (i := (.goto 4)) (len := 3) rfl rfl rfl) ?_
      exact H _ e0 e1 (hv_v8)
  · replace H := H.2 hc
    refine y_next (pc' := 9) (xst_of (i := (.if_icmp .ne 12)) (len := 3) rfl rfl (xf_icmp_ne (t := 18) rfl hc)) ?_
    refine y_next (pc' := 10) (xst_of (i := (.aload_n 0)) (len := 1) rfl rfl (x_aloadV (xisV_r _) e0)) ?_
    refine y_next (pc' := 11) (xst_of (i := (.iload_n 1)) (len := 1) rfl rfl (x_ilo e1)) ?_
    refine y_call (xst_of (i := (.invokestatic 108)) (len := 3) rfl rfl rfl) (H.imp (fun r h9 z => ?_))
    obtain ⟨x10, rfl, H⟩ := z
    change xY V 56 14 _ _ h9 Q
    obtain ⟨⟨fs, ea⟩, H⟩ := H
    refine y_call (xst_of (i := (.invokevirtual 55)) (len := 3) rfl rfl (x_callv rfl rfl ea rfl rfl)) (H.imp (fun r h11 z => ?_))
    obtain ⟨v12, rfl, hv_v12, H⟩ := z
    change xY V 56 17 _ _ h11 Q
    exact y_ret (xst_of (i := .areturn) (len := 1) rfl rfl (x_aretV rfl (hv_v12))) H
theorem b_56_39 {V : xV} {l0 : Nat} {l1 : Int32} {s0 : Value} {h : xH} {Q : xQ → xH → Prop} (H : isN s0 (B_56_52 V l0 l1 .null .null h Q) (fun b1 => gV h b1 3 1 (fun v2 => B_56_52 V l0 l1 (.ref b1) v2 h Q))) : B_56_39 V l0 l1 s0 h Q := by
  intro lv e0 e1 hv_s0
  refine y_next (pc' := 40) (xst_of (i := (.astore_n 2)) (len := 1) rfl rfl (x_astoreV (hv_s0) (by decide))) ?_
  have e0 := xs1_a (i := 2) (v := s0) e0 (by decide) (by decide)
  have e1 := xs1_b (i := 2) (v := s0) e1 (by decide) rfl
  have e2 := xs1_n (lv := _) (i := 2) (v := s0)
  refine y_next (pc' := 41) (xst_of (i := (.aload_n 2)) (len := 1) rfl rfl (x_aloadV (hv_s0) e2)) ?_
  rcases hv_s0 with hn | ⟨b1, hn⟩
  · replace H := H.1 hn
    subst hn
    refine y_next (pc' := 44) (xst_of (i := (.ifnonnull 7)) (len := 3) rfl rfl rfl) ?_
    refine y_next (pc' := 45) (xst_of (i := .aconst_null) (len := 1) rfl rfl rfl) ?_
    refine y_next (pc' := 52) (xst_of (i := (.goto 7)) (len := 3) rfl rfl rfl) ?_
    exact H _ e0 e1 e2 (xisV_n) (xisV_n)
  · replace H := H.2 b1 hn
    subst hn
    refine y_next (pc' := 48) (xst_of (i := (.ifnonnull 7)) (len := 3) rfl rfl rfl) ?_
    refine y_next (pc' := 49) (xst_of (i := (.aload_n 2)) (len := 1) rfl rfl (x_aloadV (xisV_r _) e2)) ?_
    obtain ⟨fs, v2, ea, eb, hv_v2, H⟩ := H
    refine y_next (pc' := 52) (xst_of (i := (.getfield 115)) (len := 3) rfl rfl (x_getf rfl ea eb)) ?_
    exact H _ e0 e1 e2 (xisV_r _) (hv_v2)
theorem b_56_52 {V : xV} {l0 : Nat} {l1 : Int32} {l2 : Value} {s0 : Value} {h : xH} {Q : xQ → xH → Prop} (H : Q (.inl (some (s0))) h) : B_56_52 V l0 l1 l2 s0 h Q := by
  intro lv e0 e1 e2 hv_l2 hv_s0
  exact y_ret (xst_of (i := .areturn) (len := 1) rfl rfl (x_aretV rfl (hv_s0))) H
theorem e_56 {V : xV} {l0 : Nat} {l1 : Int32} {h : xH} {Q : xQ → xH → Prop} (H : B_56_0 V l0 l1 h Q) : xY V 56 0 [(0, .ref l0), (1, .int l1)] [] h Q := H _ rfl rfl
