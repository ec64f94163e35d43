/-! the reference's judge: callees, returns, a whole word -/
def rdL : Nat → Int32 := fun i => ([2, 0, 0, 0, 0, 0, 6, 6, 6, 0, 2, 2, 0, 0, 1, 0, 3, 3, 0, 0, 0] : List Int32).getD i 0
section MG
variable {V : xV} {g : xG} {Y : xW} {A : AF} {p i : Nat} {st : Int32}
theorem s_157 {Q : xW → Prop} {q f : Nat} (hA : AM Y A) (W : WA A p) (hp : p < 24) (ho : fI Y xM 5 = n32 p) (hst : fI Y xM 30 = st) (h0 : 0 ≤ st.toInt) (hh : fI Y xM 28 = n32 i) (hi : i < nW A p) (hf : fI Y xM 29 = 0) (Wq : WA A q) (hq : q < 24) (hfn : f < nF A q) (H : ∀ Y', MK Y Y' (cF A p i q f (mRow Y) st) (mRow Y) → Q Y') : L_157_0 V g Y (n32 q) (n32 f) Q := by
  have w2 := W.1.2
  have f8 := Wq.2.1.2.2
  obtain ⟨w1, w3, w4⟩ := Wq.2.2.2.2.2.2.2.2.1 f hfn
  unfold cF at H
  refine l_157_0 ?_
  rw [ix8, n_nat (by omega), hA 17 _ (by decide) (by decide) (by decide), w1, ix200, n_nat (by omega), hA 13 _ (by decide) (by decide) (by decide)]
  refine ⟨n_in (by omega) (by omega), n_in (by omega) (by omega), fun c => ?_, fun c => s_141 hf (l_157_107 ?_)⟩
  · rw [if_neg (fun z => z c)] at H
    refine s_143 hA (by omega) (fun m => ⟨fun z => absurd z (by decide), fun _ => ?_⟩) (fun m => ⟨fun _ => s_141 hf (l_157_107 ?_), fun z => absurd rfl z⟩)
    · rw [if_pos m] at H
      unfold gF at H
      rw [hh, show n32 i + 1 = n32 (i + 1) from n_add i 1]
      refine s_144 hA W hp ho (by omega) (fun c2 => ⟨fun z => ?_, fun z => s_141 hf (l_157_107 ?_)⟩) (fun c2 => ⟨fun z => ?_, fun z => s_141 hf (l_157_107 ?_)⟩)
      · rw [hst] at z
        rw [← z] at h0
        exact absurd h0 (by decide)
      · rw [if_pos (.inl c2)] at H
        exact H _ (MK_w _ _ (by decide))
      · rw [hst] at z
        rw [if_neg (fun y => y.elim (fun y => by omega) (fun y => y z))] at H
        rw [ho, hh, ix200, show n32 (200 * p + i) + 1 = n32 (200 * p + (i + 1)) from n_add _ 1]
        refine s_156 hA hq (by omega) (by omega) (fun m => ⟨fun y => absurd y (by decide), fun _ => l_157_107 ?_⟩) (fun m => ⟨fun _ => s_141 hf (l_157_107 ?_), fun y => absurd rfl y⟩)
        · rw [if_pos m] at H
          exact H _ (MK_r hf)
        · rw [if_neg m] at H
          exact H _ (MK_w _ _ (by decide))
      · rw [hst] at z
        rw [if_pos (.inr z)] at H
        exact H _ (MK_w _ _ (by decide))
    · rw [if_neg m] at H
      exact H _ (MK_w _ _ (by decide))
  · rw [if_pos c] at H
    exact H _ (MK_w _ _ (by decide))
theorem s_158_l {Q : xW → Prop} {sf : Nat} (hA : AM Y A) (hp : p < 24) (ho : fI Y xM 5 = n32 p) (hst : fI Y xM 30 = n32 sf) (hsf : sf < 8) (hf : fI Y xM 29 = 0) (H1 : meetsR (mRow Y) (oRow A (8 * p + sf)) → Q Y) (H0 : ¬ meetsR (mRow Y) (oRow A (8 * p + sf)) → Q (uI Y xM 29 10)) : ∀ (m k : Nat) (x : Int32), k + m = 8 → ((x = 1 ∧ ∀ r, r < k → (oRow A (8 * p + sf) r).1 ≠ 0 → (mRow Y r).1 = (oRow A (8 * p + sf) r).1 ∧ (oRow A (8 * p + sf) r).2.1 ≤ (mRow Y r).2.1 ∧ (mRow Y r).2.2 ≤ (oRow A (8 * p + sf) r).2.2) ∨ (x = 0 ∧ ¬ meetsR (mRow Y) (oRow A (8 * p + sf)))) → L_158_18 V g Y x (n32 k) Q := by
  intro m
  induction m with
  | zero =>
    intro k x hk h
    refine l_158_18 ⟨fun _ => ?_, fun z => absurd ((n_le (a := 8) (by omega) (by omega)).mpr (by omega)) z⟩
    rcases h with ⟨rfl, h⟩ | ⟨rfl, h⟩
    · exact ⟨fun z => absurd z (by decide), fun _ => l_158_110 (H1 (fun r hr => h r (by omega)))⟩
    · exact ⟨fun _ => s_141 hf (l_158_110 (H0 h)), fun z => absurd rfl z⟩
  | succ m ih =>
    intro k x hk h
    have i1 := n_in (show k < 8 by omega) (show 8 ≤ 2147483648 by omega)
    have i2 := n_in (show 8 * (8 * p + sf) + k < 1536 by omega) (show 1536 ≤ 2147483648 by omega)
    have nx : ∀ y z s, ((s = 1 ∧ ∀ r, r < k + 1 → (oRow A (8 * p + sf) r).1 ≠ 0 → (mRow Y r).1 = (oRow A (8 * p + sf) r).1 ∧ (oRow A (8 * p + sf) r).2.1 ≤ (mRow Y r).2.1 ∧ (mRow Y r).2.2 ≤ (oRow A (8 * p + sf) r).2.2) ∨ (s = 0 ∧ ¬ meetsR (mRow Y) (oRow A (8 * p + sf)))) → L_158_93 V g Y y (n32 k) z s Q := by
      intro y z s hs
      refine l_158_93 ?_
      rw [show n32 k + 1 = n32 (k + 1) from n_add k 1]
      exact ih (k + 1) s (by omega) hs
    refine l_158_18 ⟨fun z => absurd ((n_le (a := 8) (by omega) (by omega)).mp z) (by omega), fun _ => ⟨fun c => l_158_92 (nx _ _ _ (.inr ⟨rfl, ?_⟩)), fun c => ?_⟩⟩
    · rcases h with ⟨rfl, h⟩ | ⟨rfl, h⟩
      · exact absurd c (by decide)
      · exact h
    · rcases h with ⟨rfl, h⟩ | ⟨rfl, h⟩
      · rw [ho, hst, ix8, ix8, n_nat (by omega), n_nat (by omega), hA 19 _ (by decide) (by decide) (by decide), hA 20 _ (by decide) (by decide) (by decide), hA 21 _ (by decide) (by decide) (by decide)]
        refine ⟨i1, i1, i1, i2, i2, i2, s_142 (x := mRow Y k) (y := oRow A (8 * p + sf) k) (fun z => ⟨fun y => absurd y (by decide), fun _ => nx _ _ _ (.inl ⟨rfl, fun r hr => ?_⟩)⟩) (fun z => ⟨fun _ => l_158_92 (nx _ _ _ (.inr ⟨rfl, fun y => z (y k (by omega))⟩)), fun y => absurd rfl y⟩)⟩
        by_cases e : r = k
        · rw [e]; exact z
        · exact h r (by omega)
      · exact absurd rfl c
theorem s_158 {Q : xW → Prop} {sf : Nat} (hA : AM Y A) (hp : p < 24) (ho : fI Y xM 5 = n32 p) (hst : fI Y xM 30 = n32 sf) (hsf : sf < 8) (hf : fI Y xM 29 = 0) (H11 : n32 sf = 0 → Q (uI Y xM 29 11)) (H1 : ¬ n32 sf = 0 → meetsR (mRow Y) (oRow A (8 * p + sf)) → Q Y) (H0 : ¬ n32 sf = 0 → ¬ meetsR (mRow Y) (oRow A (8 * p + sf)) → Q (uI Y xM 29 10)) : L_158_0 V g Y Q := by
  refine l_158_0 ?_
  rw [hst]
  exact ⟨fun c => s_141 hf (H11 c), fun c => s_158_l hA hp ho hst hsf hf (H1 c) (H0 c) 8 0 1 rfl (.inl ⟨rfl, fun r hr => absurd hr (by omega)⟩)⟩
/-- the first test of a word: registers that must be INT -/
theorem s_159p {Q : xW → Prop} {l1 l2 l6 l7 x8 : Int32} {d a b : Nat} (hf : fI Y xM 29 = 0) (d8 : d < 8) (a8 : a < 8) (b8 : ¬ x8 &&& 4 = 0 → b < 8) (hb : b < 16)
    (H1 : (x8 &&& 1 = 0 ∨ (mRow Y d).1 = 1) ∧ (x8 &&& 2 = 0 ∨ (mRow Y a).1 = 1) ∧ (x8 &&& 4 = 0 ∨ (mRow Y b).1 = 1) → L_159_99 V g Y l1 l2 (n32 d) (n32 a) (n32 b) l6 l7 x8 Q)
    (H0 : ¬ ((x8 &&& 1 = 0 ∨ (mRow Y d).1 = 1) ∧ (x8 &&& 2 = 0 ∨ (mRow Y a).1 = 1) ∧ (x8 &&& 4 = 0 ∨ (mRow Y b).1 = 1)) → Q (uI Y xM 29 2)) :
    ((x8 &&& 1 = 0) → L_159_58 V g Y l1 l2 (n32 d) (n32 a) (n32 b) l6 l7 x8 Q) ∧ (¬ (x8 &&& 1 = 0) → vp_in (n32 d) 8 ∧ (((fA Y (10, 0, 0) 24 (Int32.toNatClampNeg (n32 d))) = 1) → L_159_58 V g Y l1 l2 (n32 d) (n32 a) (n32 b) l6 l7 x8 Q) ∧ (¬ ((fA Y (10, 0, 0) 24 (Int32.toNatClampNeg (n32 d))) = 1) → L_159_94 V g Y l1 l2 (n32 d) (n32 a) (n32 b) l6 l7 x8 Q)) := by
  have bad : ¬ ((x8 &&& 1 = 0 ∨ (mRow Y d).1 = 1) ∧ (x8 &&& 2 = 0 ∨ (mRow Y a).1 = 1) ∧ (x8 &&& 4 = 0 ∨ (mRow Y b).1 = 1)) → L_159_94 V g Y l1 l2 (n32 d) (n32 a) (n32 b) l6 l7 x8 Q := by
    intro z
    refine l_159_94 (s_141 hf (l_159_99 ⟨fun y => absurd y (by rw [fI_uI, if_pos ⟨rfl, rfl⟩]; decide), fun _ => H0 z⟩))
  have st3 : (x8 &&& 1 = 0 ∨ (mRow Y d).1 = 1) → (x8 &&& 2 = 0 ∨ (mRow Y a).1 = 1) → L_159_76 V g Y l1 l2 (n32 d) (n32 a) (n32 b) l6 l7 x8 Q := by
    intro h1 h2
    refine l_159_76 ⟨fun c => H1 ⟨h1, h2, .inl c⟩, fun c => ?_⟩
    rw [n_nat (by omega)]
    exact ⟨n_in (b8 c) (by omega), fun c2 => H1 ⟨h1, h2, .inr c2⟩, fun c2 => bad (fun z => z.2.2.elim c c2)⟩
  have st2 : (x8 &&& 1 = 0 ∨ (mRow Y d).1 = 1) → L_159_58 V g Y l1 l2 (n32 d) (n32 a) (n32 b) l6 l7 x8 Q := by
    intro h1
    refine l_159_58 ⟨fun c => st3 h1 (.inl c), fun c => ?_⟩
    rw [n_nat (by omega)]
    exact ⟨n_in a8 (by omega), fun c2 => st3 h1 (.inr c2), fun c2 => bad (fun z => z.2.1.elim c c2)⟩
  refine ⟨fun c => st2 (.inl c), fun c => ?_⟩
  rw [n_nat (by omega)]
  exact ⟨n_in d8 (by omega), fun c2 => st2 (.inr c2), fun c2 => bad (fun z => z.1.elim c c2)⟩
end MG
