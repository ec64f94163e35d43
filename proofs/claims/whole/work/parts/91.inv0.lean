/-! the first state keeps the invariant -/
theorem pr_ok : ∀ k, k < 21 → pr0 k = xparts k ∧ pr1 k = rdL k := by decide +kernel
theorem liv_n {t : xT} (h : t.1 = 5 ∨ t.1 = 0 ∨ t.1 = 20 ∨ t.1 = 3 ∨ t.1 = 2 ∨ t.1 = 22 ∨ t.1 = 4) : liv t = false := by
  cases e : liv t with
  | false => rfl
  | true =>
    rcases liv_c e with rfl | rfl | rfl | rfl | rfl | rfl | rfl | rfl <;> exact absurd h (by decide)
theorem liv_g {q : Nat} {t : xT} (h : t.1 = 5 ∨ t.1 = 0 ∨ t.1 = 20 ∨ t.1 = 3 ∨ t.1 = 2 ∨ t.1 = 22 ∨ t.1 = 4) : (g0 q).1 t = false := liv_n h
theorem ip_0 (q : Nat) (c : Nat × Nat × Nat) : IP (g0 q) (Y0 c) 0 0 := by
  refine ⟨⟨by omega, by omega⟩, ⟨rfl, rfl, rfl, rfl⟩, .inl ⟨rfl, rfl⟩, fun p hp => absurd hp (Nat.not_lt_zero p), fun p _ hp => ?_, fun k hk => pr_ok k hk⟩
  exact ⟨liv_g (by simp), fun f _ => ⟨liv_g (by simp), liv_g (by simp)⟩, fun k _ => liv_g (by simp), fun k _ => ⟨liv_g (by simp), liv_g (by simp)⟩, rfl, rfl, rfl, fun f _ => ⟨rfl, rfl, fun r _ => rfl⟩, fun k _ r _ => rfl⟩
theorem st_0 (c : Nat × Nat × Nat) : ST (Y0 c) (fA (Y0 c) xM) 0 := by
  refine ⟨rfl, fun k _ => rfl, fun i hi => absurd hi (Nat.not_lt_zero i), fun i hi => absurd hi (Nat.not_lt_zero _), fun k _ => .inl rfl, fun k _ => ⟨fun z => ?_, fun z => ?_⟩⟩
  · have z' : (0 : Int32) = 1 := z
    exact absurd z' (by decide)
  · obtain ⟨i, hi, -⟩ := z
    exact absurd hi (Nat.not_lt_zero i)
theorem iq_0 (q : Nat) (c : Nat × Nat × Nat) : IQ (g0 q) (Y0 c) 0 0 0 := by
  refine ⟨⟨by omega, by omega, by omega⟩, ⟨rfl, rfl, rfl, rfl, rfl, rfl, rfl, rfl⟩, fun i hi => absurd hi (Nat.not_lt_zero i), ⟨fun i hi => absurd hi (Nat.not_lt_zero i), fun i j hi => absurd hi (Nat.not_lt_zero i), fun q hq => absurd hq (Nat.not_lt_zero q)⟩, fun q hq => absurd hq (Nat.not_lt_zero q), fun p _ _ => ?_, st_0 c, fun q hq => absurd hq (Nat.not_lt_zero q), fun q q' hq => absurd hq (Nat.not_lt_zero q)⟩
  exact ⟨liv_g (by simp), rfl, rfl, rfl, rfl, rfl, fun r _ => rfl, rfl⟩
theorem inv_0 (q : Nat) (c : Nat × Nat × Nat) : Inv (g0 q) (Y0 c) := ⟨⟨0, 0, ip_0 q c⟩, 0, 0, 0, iq_0 q c⟩
/-- the law's run in the small machine -/
theorem law_all {V : xV} {n0 c0 s0 : Nat} (hc0 : c0 ≤ 595904) (hs0 : s0 ≤ 7059562) (hL : V.2.2.1 ≤ 3072) {h' : xH} {lv : xL} (R : RC V (g0 n0) h' (Y0 (n0 + 59, c0, s0))) (e0 : xlk lv 0 = some (.ref V.2.1)) (e1 : xlk lv 1 = some (.ref (n0 + 0))) (e2 : xlk lv 2 = some (.ref (n0 + 18))) (e3 : xlk lv 3 = some (.ref (n0 + 58))) (e4 : xlk lv 4 = some (.int 0)) : xY V 198 23 lv [] h' (lGI V (g0 n0) (fun x _ Y => x = 1 ∧ (fC Y).2.1 ≤ 601024 ∧ (fC Y).2.2 ≤ 7293034)) := by
  have LL := law_loop (V := V) (c0 := c0) (s0 := s0) (Q := fun x _ Y => x = 1 ∧ (fC Y).2.1 ≤ 601024 ∧ (fC Y).2.2 ≤ 7293034) hL (fun g Y a b => ⟨rfl, Nat.le_trans a (by omega), Nat.le_trans b (by omega)⟩) 512 0 (g0 n0) (Y0 (n0 + 59, c0, s0)) (by omega) (by omega) (inv_0 n0 _) (Nat.le_refl _) (Nat.le_refl _)
  exact LL h' lv R e0 e1 e2 e3 e4
theorem x_law : xlawP := by
  intro V n0 hL h1 h2 hv
  have G : xY V 198 0 [(0, .ref V.2.1)] [] ((fun _ => none), n0, 0, 0) (lGI V (g0 n0) (fun x _ Y => x = 1 ∧ (fC Y).2.1 ≤ 601024 ∧ (fC Y).2.2 ≤ 7293034)) := by
    refine law_run (fun h' lv S e0 e1 e2 e3 e4 => ?_) rfl
    exact law_all (by omega) (by omega) hL (rc_0 h1 h2 hv S) e0 e1 e2 e3 e4
  obtain ⟨n, r, h', a, x, g', Y, e, R, -, rfl, c1, c2⟩ := G
  subst e
  have hc : h'.2 = fC Y := R.2.2.2.2.2.2.1.1
  exact ⟨n, h', a, by rw [hc]; exact c1, by rw [hc]; exact c2⟩
