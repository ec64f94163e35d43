/-! count -/
section CO
variable {V : xV} {g : xG} {Y Y' : xW} {K : Nat}
theorem rB_c (h : ∀ k j, fA Y' (7, 0, 0) k j = fA Y (7, 0, 0) k j) : rB Y' = rB Y := by funext i; unfold rB; rw [h]
theorem rS_c (h : ∀ k j, fA Y' (7, 0, 0) k j = fA Y (7, 0, 0) k j) : rS Y' = rS Y := by funext i; unfold rS; rw [h]
theorem gB_c (h : ∀ k j, fA Y' (7, 0, 0) k j = fA Y (7, 0, 0) k j) : gB Y' = gB Y := by funext i; unfold gB; rw [rB_c h, rS_c h]
theorem gE_c (h : ∀ k j, fA Y' (7, 0, 0) k j = fA Y (7, 0, 0) k j) : gE Y' = gE Y := by funext K i; unfold gE; rw [rB_c h]
theorem gS_c (h : ∀ k j, fA Y' (7, 0, 0) k j = fA Y (7, 0, 0) k j) : ∀ i, gS Y' K i = gS Y K i ∧ gC Y' K i = gC Y K i ∧ gM Y' K i = gM Y K i := by
  intro i
  induction i with
  | zero => exact ⟨rfl, rfl, rfl⟩
  | succ i ih =>
    unfold gS gC gM
    rw [ih.1, ih.2.1, ih.2.2, gB_c h, gE_c h]
    exact ⟨rfl, rfl, rfl⟩
theorem ST_c (hA : ∀ u k j, fA Y' u k j = fA Y u k j) (h3 : fI Y' (7, 0, 0) 3 = fI Y (7, 0, 0) 3) (s : ST Y (fA Y xM) K) : ST Y' (fA Y' xM) K := by
  have E : fA Y' xM = fA Y xM := funext fun k => funext fun j => hA xM k j
  unfold ST
  rw [h3, E, rB_c (Y := Y) (fun k j => hA _ k j), rS_c (Y := Y) (fun k j => hA _ k j)]
  obtain ⟨s1, s2, s3, s4, s5, s6⟩ := s
  refine ⟨s1, fun k hk => by rw [hA]; exact s2 k hk, fun i hi => ?_, s4, s5, s6⟩
  rw [hA, hA]
  exact s3 i hi
/-- 19: count -/
theorem case_19 {x1 : Int32} {Pr : Prop} {B : Int32 → Int32 → xW → Prop} {F : xW → Prop} (hi : Inv g Y) (hp : Pr) (H : ∀ x y Y', Inv g Y' → CT Y Y' → B x y Y') : L_197_0 V g Y x1 (fun x42 Y41 => Pr ∧ L_183_0 V g Y41 x1 (fun x44 Y43 => tqK V g B F x42 x44 Y43)) := by
  have hi' := hi
  obtain ⟨⟨P, N, I⟩, S, K, hd, J⟩ := hi'
  have K40 := J.1.2.1
  obtain ⟨b1, b2, b3, b4, b5, b6, b7, b8⟩ := J.2.1
  obtain ⟨m3, y1, m4, y3⟩ := I.2.1
  have st := J.2.2.2.2.2.2.1
  have ip0 := n_in (k := 0) (n := 1) (by omega) (by omega)
  -- the reference's scan, up to its end
  have scan : ∀ (Y3 : xW) (Q : Int32 → xW → Prop), (∀ u k j, fA Y3 u k j = fA Y u k j) → fI Y3 (7, 0, 0) 3 = fI Y (7, 0, 0) 3 → (∀ r, L_183_18 V g (uI Y3 xM 2 0) x1 (n32 (gS Y K (K + 1))) (n32 (gC Y K (K + 1))) (n32 (gM Y K (K + 1))) r (n32 4096) Q) → L_183_0 V g Y3 x1 Q := by
    intro Y3 Q hA h3 h
    refine l_183_0 (fun Y1 e1 => ?_)
    have hA1 : ∀ u k j, fA Y1 u k j = fA Y u k j := fun u k j => by rw [e1]; exact hA u k j
    have st1 : ST Y1 (fA Y1 xM) K := ST_c hA1 (by rw [e1]; exact h3) st
    have c := gS_c (Y' := Y1) (Y := Y) (K := K) (fun k j => hA1 _ k j)
    have h0 := s_183_l (V := V) (g := g) (Q := Q) (x := x1) st1 K40 (fun r => by rw [(c (K + 1)).1, (c (K + 1)).2.1, (c (K + 1)).2.2, e1]; exact h r) K 0 (by omega)
    exact h0
  have last : ∀ (Y1 : xW) (Q : Int32 → xW → Prop) (r : Int32) (v : Int32), fI Y1 xM 3 = fI Y xM 3 → fI Y1 xM 4 = fI Y xM 4 → fI Y1 xM 31 = fI Y xM 31 → fI Y1 xM 32 = fI Y xM 32 → fI Y1 xM 33 = fI Y xM 33 → fI Y1 xM 34 = fI Y xM 34 → ((x1 = 0 ∧ v = fI Y xM 3) ∨ (x1 = 1 ∧ v = fI Y xM 4) ∨ (x1 = 2 ∧ v = fI Y xM 31) ∨ (x1 = 3 ∧ v = fI Y xM 32) ∨ (x1 = 4 ∧ v = n32 (gS Y K (K + 1))) ∨ (x1 = 5 ∧ v = n32 (gC Y K (K + 1))) ∨ (x1 = 6 ∧ v = n32 (gM Y K (K + 1))) ∨ (x1 = 7 ∧ v = fI Y xM 34) ∨ (x1 = 8 ∧ v = if fI Y xM 32 = 0 then -1 else fI Y xM 33)) → Q v Y1 → L_183_18 V g Y1 x1 (n32 (gS Y K (K + 1))) (n32 (gC Y K (K + 1))) (n32 (gM Y K (K + 1))) r (n32 4096) Q := by
    intro Y1 Q r v e3 e4 e31 e32 e33 e34 hv HQ
    refine l_183_18 ⟨fun _ => ?_, fun z => absurd ((n_le (a := 4096) (by omega) (by omega)).mpr (by omega)) z⟩
    rw [show fI Y1 (10, 0, 0) 3 = _ from e3, show fI Y1 (10, 0, 0) 4 = _ from e4, show fI Y1 (10, 0, 0) 31 = _ from e31, show fI Y1 (10, 0, 0) 32 = _ from e32, show fI Y1 (10, 0, 0) 33 = _ from e33, show fI Y1 (10, 0, 0) 34 = _ from e34]
    have sel : ∀ {w : Int32}, v = w → Q w Y1 := fun h => by rw [← h]; exact HQ
    have g0 : x1 = 0 → v = fI Y xM 3 := by
      intro z
      rcases hv with ⟨y, w⟩ | ⟨y, w⟩ | ⟨y, w⟩ | ⟨y, w⟩ | ⟨y, w⟩ | ⟨y, w⟩ | ⟨y, w⟩ | ⟨y, w⟩ | ⟨y, w⟩ <;> first | exact w | exact absurd (z.symm.trans y) (by decide)
    have g1 : x1 = 1 → v = fI Y xM 4 := by
      intro z
      rcases hv with ⟨y, w⟩ | ⟨y, w⟩ | ⟨y, w⟩ | ⟨y, w⟩ | ⟨y, w⟩ | ⟨y, w⟩ | ⟨y, w⟩ | ⟨y, w⟩ | ⟨y, w⟩ <;> first | exact absurd (z.symm.trans y) (by decide) | exact w
    have g2 : x1 = 2 → v = fI Y xM 31 := by
      intro z
      rcases hv with ⟨y, w⟩ | ⟨y, w⟩ | ⟨y, w⟩ | ⟨y, w⟩ | ⟨y, w⟩ | ⟨y, w⟩ | ⟨y, w⟩ | ⟨y, w⟩ | ⟨y, w⟩ <;> first | exact absurd (z.symm.trans y) (by decide) | exact w
    have g3 : x1 = 3 → v = fI Y xM 32 := by
      intro z
      rcases hv with ⟨y, w⟩ | ⟨y, w⟩ | ⟨y, w⟩ | ⟨y, w⟩ | ⟨y, w⟩ | ⟨y, w⟩ | ⟨y, w⟩ | ⟨y, w⟩ | ⟨y, w⟩ <;> first | exact absurd (z.symm.trans y) (by decide) | exact w
    have g4 : x1 = 4 → v = n32 (gS Y K (K + 1)) := by
      intro z
      rcases hv with ⟨y, w⟩ | ⟨y, w⟩ | ⟨y, w⟩ | ⟨y, w⟩ | ⟨y, w⟩ | ⟨y, w⟩ | ⟨y, w⟩ | ⟨y, w⟩ | ⟨y, w⟩ <;> first | exact absurd (z.symm.trans y) (by decide) | exact w
    have g5 : x1 = 5 → v = n32 (gC Y K (K + 1)) := by
      intro z
      rcases hv with ⟨y, w⟩ | ⟨y, w⟩ | ⟨y, w⟩ | ⟨y, w⟩ | ⟨y, w⟩ | ⟨y, w⟩ | ⟨y, w⟩ | ⟨y, w⟩ | ⟨y, w⟩ <;> first | exact absurd (z.symm.trans y) (by decide) | exact w
    have g6 : x1 = 6 → v = n32 (gM Y K (K + 1)) := by
      intro z
      rcases hv with ⟨y, w⟩ | ⟨y, w⟩ | ⟨y, w⟩ | ⟨y, w⟩ | ⟨y, w⟩ | ⟨y, w⟩ | ⟨y, w⟩ | ⟨y, w⟩ | ⟨y, w⟩ <;> first | exact absurd (z.symm.trans y) (by decide) | exact w
    have g7 : x1 = 7 → v = fI Y xM 34 := by
      intro z
      rcases hv with ⟨y, w⟩ | ⟨y, w⟩ | ⟨y, w⟩ | ⟨y, w⟩ | ⟨y, w⟩ | ⟨y, w⟩ | ⟨y, w⟩ | ⟨y, w⟩ | ⟨y, w⟩ <;> first | exact absurd (z.symm.trans y) (by decide) | exact w
    have g8 : x1 = 8 → v = if fI Y xM 32 = 0 then -1 else fI Y xM 33 := by
      intro z
      rcases hv with ⟨y, w⟩ | ⟨y, w⟩ | ⟨y, w⟩ | ⟨y, w⟩ | ⟨y, w⟩ | ⟨y, w⟩ | ⟨y, w⟩ | ⟨y, w⟩ | ⟨y, w⟩ <;> first | exact absurd (z.symm.trans y) (by decide) | exact w
    refine ⟨⟨fun z => sel (g0 z), fun z => sel (g1 z), fun z => sel (g2 z), fun z => sel (g3 z), fun z => sel (g4 z), fun z => sel (g5 z), fun z => sel (g6 z), fun z => sel (g7 z), fun z => ⟨fun c => l_183_171 (sel ((g8 z).trans (if_pos c))), fun c => l_183_171 (sel ((g8 z).trans (if_neg c)))⟩⟩, fun z => ?_⟩
    rcases hv with ⟨y, _⟩ | ⟨y, _⟩ | ⟨y, _⟩ | ⟨y, _⟩ | ⟨y, _⟩ | ⟨y, _⟩ | ⟨y, _⟩ | ⟨y, _⟩ | ⟨y, _⟩ <;> (rw [y] at z; exact absurd z (by decide))
  have go : ∀ (v : Int32) (Y3 : xW), Y3 = uL Y (12, 0, 0) 0 (Int32.toNatClampNeg 0) (Int32.toInt64 v) → ((x1 = 0 ∧ v = fI Y xM 3) ∨ (x1 = 1 ∧ v = fI Y xM 4) ∨ (x1 = 2 ∧ v = fI Y xM 31) ∨ (x1 = 3 ∧ v = fI Y xM 32) ∨ (x1 = 4 ∧ v = n32 (gS Y K (K + 1))) ∨ (x1 = 5 ∧ v = n32 (gC Y K (K + 1))) ∨ (x1 = 6 ∧ v = n32 (gM Y K (K + 1))) ∨ (x1 = 7 ∧ v = fI Y xM 34) ∨ (x1 = 8 ∧ v = if fI Y xM 32 = 0 then -1 else fI Y xM 33)) → Pr ∧ L_183_0 V g Y3 x1 (fun x44 Y43 => tqK V g B F 0 x44 Y43) := by
    intro v Y3 e3 hv
    subst e3
    refine ⟨hp, scan _ _ (fun _ _ _ => rfl) rfl (fun r => last _ _ r v rfl rfl rfl rfl rfl rfl hv (k_val hi H v))⟩
  have thr : (x1.toInt < 0 ∨ 8 < x1.toInt) → Pr ∧ L_183_0 V g (uT Y) x1 (fun x44 Y43 => tqK V g B F 1 x44 Y43) := by
    intro h
    refine ⟨hp, scan _ _ (fun _ _ _ => rfl) rfl (fun r => l_183_18 ⟨fun _ => ?_, fun z => absurd ((n_le (a := 4096) (by omega) (by omega)).mpr (by omega)) z⟩)⟩
    have no : ∀ {m : Int32} {R : Prop}, 0 ≤ m.toInt → m.toInt ≤ 8 → x1 = m → R := fun h1 h2 h3 => by rw [h3] at h; omega
    exact ⟨⟨no (by decide) (by decide), no (by decide) (by decide), no (by decide) (by decide), no (by decide) (by decide), no (by decide) (by decide), no (by decide) (by decide), no (by decide) (by decide), no (by decide) (by decide), no (by decide) (by decide)⟩, fun _ => s_125 (k_thr hi H)⟩
  refine l_197_0 (l_107_0 ⟨⟨fun z => ⟨ip0, fun Y3 e3 => go _ Y3 e3 (.inl ⟨z, by rw [y1, m3]⟩)⟩, fun z => ⟨ip0, fun Y3 e3 => go _ Y3 e3 (.inr (.inl ⟨z, by rw [y3, m4]⟩))⟩, fun z => ⟨ip0, fun Y3 e3 => go _ Y3 e3 (.inr (.inr (.inl ⟨z, by rw [b2, b1]⟩)))⟩, fun z => ⟨ip0, fun Y3 e3 => go _ Y3 e3 (.inr (.inr (.inr (.inl ⟨z, by rw [b4, b3]⟩))))⟩, fun z => s_70 st K40 ⟨ip0, fun Y3 e3 => go _ Y3 e3 (.inr (.inr (.inr (.inr (.inl ⟨z, rfl⟩)))))⟩, fun z => s_71 st K40 ⟨ip0, fun Y3 e3 => go _ Y3 e3 (.inr (.inr (.inr (.inr (.inr (.inl ⟨z, rfl⟩))))))⟩, fun z => s_72 st K40 ⟨ip0, fun Y3 e3 => go _ Y3 e3 (.inr (.inr (.inr (.inr (.inr (.inr (.inl ⟨z, rfl⟩)))))))⟩, fun z => ⟨ip0, fun Y3 e3 => go _ Y3 e3 (.inr (.inr (.inr (.inr (.inr (.inr (.inr (.inl ⟨z, b7⟩))))))))⟩, fun z => ⟨fun c => l_107_122 ⟨ip0, fun Y3 e3 => go _ Y3 e3 (.inr (.inr (.inr (.inr (.inr (.inr (.inr (.inr ⟨z, ?_⟩))))))))⟩, fun c => l_107_122 ⟨ip0, fun Y3 e3 => go _ Y3 e3 (.inr (.inr (.inr (.inr (.inr (.inr (.inr (.inr ⟨z, ?_⟩))))))))⟩⟩⟩, fun z => ⟨by decide +kernel, thr z⟩⟩)
  · rw [if_pos (by rw [b3, ← b4]; exact c)]
  · rw [if_neg (by rw [b3, ← b4]; exact c), b6]
end CO
