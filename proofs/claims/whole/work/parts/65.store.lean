/-! the store: gaps against the bitmap -/
def gB (Y : xW) (i : Nat) : Nat := if i = 0 then 0 else rB Y (i - 1) + rS Y (i - 1)
def gE (Y : xW) (K i : Nat) : Nat := if i < K then rB Y i else 4096
section SG
variable {V : xV} {g : xG} {Y : xW} {K : Nat}
theorem gB_s (Y : xW) (i : Nat) : gB Y (i + 1) = rB Y i + rS Y i := by unfold gB; rw [if_neg (by omega), Nat.add_sub_cancel]
theorem st_mono {A : AF} (s : ST Y A K) : ∀ d i, i + d + 1 < K → rB Y i + rS Y i ≤ rB Y (i + d + 1) := by
  intro d
  induction d with
  | zero => intro i h; exact s.2.2.2.1 i h
  | succ d ih =>
    intro i h
    have h1 := ih i (by omega)
    have h2 := s.2.2.2.1 (i + d + 1) (by omega)
    have h3 := (s.2.2.1 (i + d + 1) (by omega)).2.2.1
    have e : i + (d + 1) + 1 = i + d + 1 + 1 := by omega
    rw [e]
    omega
theorem st_lt {A : AF} (s : ST Y A K) {i j : Nat} (h : i < j) (hj : j < K) : rB Y i + rS Y i ≤ rB Y j := by
  have := st_mono s (j - i - 1) i (by omega)
  have e : i + (j - i - 1) + 1 = j := by omega
  rw [e] at this
  exact this
theorem gap_le (s : ST Y (fA Y xM) K) {i : Nat} (hi : i ≤ K) : gB Y i ≤ gE Y K i := by
  unfold gE
  cases i with
  | zero =>
    unfold gB
    rw [if_pos rfl]
    omega
  | succ i =>
    rw [gB_s]
    split
    next h => exact s.2.2.2.1 i h
    next h => exact (s.2.2.1 i (by omega)).2.2.2
theorem gE_le (s : ST Y (fA Y xM) K) {i : Nat} : gE Y K i ≤ 4096 := by
  unfold gE
  split
  next h => have := (s.2.2.1 i h).2.2.2; omega
  next h => omega
theorem gap_free (s : ST Y (fA Y xM) K) {i k : Nat} (hi : i ≤ K) (h1 : gB Y i ≤ k) (h2 : k < gE Y K i) : fA Y xM 51 k = 0 := by
  have k4 : k < 4096 := Nat.lt_of_lt_of_le h2 (gE_le s)
  rcases s.2.2.2.2.1 k k4 with z | z
  · exact z
  · exfalso
    obtain ⟨j, hj, j1, j2⟩ := (s.2.2.2.2.2 k k4).mp z
    by_cases c : j < i
    · cases i with
      | zero => omega
      | succ i =>
        rw [gB_s] at h1
        by_cases e : j = i
        · subst e; omega
        · have := st_lt s (show j < i by omega) (by omega)
          omega
    · unfold gE at h2
      rw [if_pos (by omega)] at h2
      by_cases e : j = i
      · subst e; omega
      · have := st_lt s (show i < j by omega) hj
        omega
theorem reg_taken (s : ST Y (fA Y xM) K) {i k : Nat} (hi : i < K) (h1 : rB Y i ≤ k) (h2 : k < rB Y i + rS Y i) : fA Y xM 51 k = 1 := by
  have := (s.2.2.1 i hi).2.2.2
  exact (s.2.2.2.2.2 k (by omega)).mpr ⟨i, hi, h1, h2⟩
theorem s_67 {Q : Int32 → xW → Prop} {i : Nat} (s : ST Y (fA Y xM) K) (hK : K ≤ 40) (hi : i ≤ K) (H : Q (n32 (gB Y i)) Y) : L_67_0 V g Y (n32 i) Q := by
  refine l_67_0 ⟨fun z => l_67_25 ?_, fun z => ?_⟩
  · have e := (n_eq0 (by omega)).mp z
    subst e
    exact H
  · have i0 : i ≠ 0 := fun y => z ((n_eq0 (by omega)).mpr y)
    obtain ⟨j, rfl⟩ : ∃ j, i = j + 1 := ⟨i - 1, by omega⟩
    rw [show n32 (j + 1) - 1 = n32 j from n_sub (b := 1) (by omega), n_nat (by omega), (s.2.2.1 j (by omega)).1, (s.2.2.1 j (by omega)).2.1, n_add, ← gB_s]
    exact ⟨n_in (by omega) (by omega), n_in (by omega) (by omega), l_67_25 H⟩
theorem s_68 {Q : Int32 → xW → Prop} {i : Nat} (s : ST Y (fA Y xM) K) (hK : K ≤ 40) (hi : i ≤ K) (H : Q (n32 (gE Y K i - gB Y i)) Y) : L_68_0 V g Y (n32 i) Q := by
  have hg := gap_le s hi
  refine l_68_0 ?_
  rw [s.1, n_le (by omega) (by omega)]
  refine ⟨fun z => l_68_20 (s_67 s hK hi ?_), fun z => ⟨n_in (by omega) (by omega), l_68_20 (s_67 s hK hi ?_)⟩⟩
  · have e : gE Y K i = 4096 := by unfold gE; exact if_neg (by omega)
    rw [show (4096 : Int32) = n32 4096 from rfl, ← e, n_sub hg]
    exact H
  · have e : gE Y K i = rB Y i := by unfold gE; exact if_pos (by omega)
    rw [n_nat (by omega), (s.2.2.1 i (by omega)).1, ← e, n_sub hg]
    exact H
theorem s_69 {Q : Int32 → xW → Prop} {n : Nat} (s : ST Y (fA Y xM) K) (hK : K ≤ 40) (hn : n < 2147483648) (H1 : ∀ i, i ≤ K → n ≤ gE Y K i - gB Y i → (∀ j, j < i → gE Y K j - gB Y j < n) → Q (n32 (gB Y i)) Y) (H0 : (∀ i, i ≤ K → gE Y K i - gB Y i < n) → Q (-1) Y) : L_69_0 V g Y (n32 n) Q := by
  have lp : ∀ m i, i + m = K + 1 → (∀ j, j < i → gE Y K j - gB Y j < n) → L_69_2 V g Y (n32 n) (n32 i) Q := by
    intro m
    induction m with
    | zero =>
      intro i e hj
      refine l_69_2 ⟨fun _ => H0 (fun j h => hj j (by omega)), fun z => absurd ?_ z⟩
      rw [s.1, n_lt (by omega) (by omega)]
      omega
    | succ m ih =>
      intro i e hj
      have g4 := gE_le s (i := i)
      refine l_69_2 ⟨fun z => ?_, fun _ => s_68 s hK (by omega) ⟨fun c => ?_, fun c => s_67 s hK (by omega) (H1 i (by omega) ?_ hj)⟩⟩
      · rw [s.1, n_lt (by omega) (by omega)] at z
        omega
      · rw [n_lt (by omega) hn] at c
        rw [show n32 i + 1 = n32 (i + 1) from n_add i 1]
        refine ih (i + 1) (by omega) (fun j h => ?_)
        by_cases e2 : j = i
        · subst e2; exact c
        · exact hj j (by omega)
      · rw [n_lt (by omega) hn] at c
        omega
  exact l_69_0 (lp (K + 1) 0 (by omega) (fun j h => by omega))
/-! sums over gaps -/
def gS (Y : xW) (K : Nat) : Nat → Nat
  | 0 => 0
  | i + 1 => gS Y K i + (gE Y K i - gB Y i)
def gC (Y : xW) (K : Nat) : Nat → Nat
  | 0 => 0
  | i + 1 => gC Y K i + (if gE Y K i - gB Y i = 0 then 0 else 1)
def gM (Y : xW) (K : Nat) : Nat → Nat
  | 0 => 0
  | i + 1 => max (gM Y K i) (gE Y K i - gB Y i)
theorem gS_le (s : ST Y (fA Y xM) K) : ∀ i, i ≤ K + 1 → gS Y K i ≤ 4096 * i ∧ gC Y K i ≤ i ∧ gM Y K i ≤ 4096 := by
  intro i
  induction i with
  | zero => intro _; exact ⟨by unfold gS; omega, by unfold gC; omega, by unfold gM; omega⟩
  | succ i ih =>
    intro h
    obtain ⟨h1, h2, h3⟩ := ih (by omega)
    have g4 := gE_le s (i := i)
    refine ⟨?_, ?_, ?_⟩
    · unfold gS; omega
    · unfold gC; split <;> omega
    · unfold gM; omega
theorem s_70 {Q : Int32 → xW → Prop} (s : ST Y (fA Y xM) K) (hK : K ≤ 40) (H : Q (n32 (gS Y K (K + 1))) Y) : L_70_0 V g Y Q := by
  have lp : ∀ m i, i + m = K + 1 → L_70_4 V g Y (n32 (gS Y K i)) (n32 i) Q := by
    intro m
    induction m with
    | zero =>
      intro i e
      have e' : i = K + 1 := by omega
      subst e'
      refine l_70_4 ⟨fun _ => H, fun z => absurd ?_ z⟩
      rw [s.1, n_lt (by omega) (by omega)]
      omega
    | succ m ih =>
      intro i e
      refine l_70_4 ⟨fun z => ?_, fun _ => s_68 s hK (by omega) ?_⟩
      · rw [s.1, n_lt (by omega) (by omega)] at z
        omega
      · rw [show n32 i + 1 = n32 (i + 1) from n_add i 1, n_add]
        exact ih (i + 1) (by omega)
  exact l_70_0 (lp (K + 1) 0 (by omega))
theorem s_71 {Q : Int32 → xW → Prop} (s : ST Y (fA Y xM) K) (hK : K ≤ 40) (H : Q (n32 (gC Y K (K + 1))) Y) : L_71_0 V g Y Q := by
  have lp : ∀ m i, i + m = K + 1 → L_71_4 V g Y (n32 (gC Y K i)) (n32 i) Q := by
    intro m
    induction m with
    | zero =>
      intro i e
      have e' : i = K + 1 := by omega
      subst e'
      refine l_71_4 ⟨fun _ => H, fun z => absurd ?_ z⟩
      rw [s.1, n_lt (by omega) (by omega)]
      omega
    | succ m ih =>
      intro i e
      have g4 := gE_le s (i := i)
      have ih' := ih (i + 1) (by omega)
      unfold gC at ih'
      refine l_71_4 ⟨fun z => ?_, fun _ => s_68 s hK (by omega) ⟨fun c => l_71_26 ?_, fun c => l_71_26 ?_⟩⟩
      · rw [s.1, n_lt (by omega) (by omega)] at z
        omega
      · have c' := (n_le (b := 0) (by omega) (by omega)).mp c
        rw [if_pos (by omega), ← n_add] at ih'
        rw [show n32 i + 1 = n32 (i + 1) from n_add i 1]
        exact ih'
      · have c' := mt (n_le (b := 0) (by omega) (by omega)).mpr c
        rw [if_neg (by omega), ← n_add] at ih'
        rw [show n32 i + 1 = n32 (i + 1) from n_add i 1]
        exact ih'
  exact l_71_0 (lp (K + 1) 0 (by omega))
theorem n_max {a b : Nat} (ha : a < 2147483648) (hb : b < 2147483648) : (if n32 a < n32 b then n32 b else n32 a) = n32 (max a b) := by
  split
  next h =>
    rw [n_lt ha hb] at h
    rw [Nat.max_eq_right (by omega)]
  next h =>
    rw [n_lt ha hb] at h
    rw [Nat.max_eq_left (by omega)]
theorem s_72 {Q : Int32 → xW → Prop} (s : ST Y (fA Y xM) K) (hK : K ≤ 40) (H : Q (n32 (gM Y K (K + 1))) Y) : L_72_0 V g Y Q := by
  have lp : ∀ m i, i + m = K + 1 → L_72_4 V g Y (n32 (gM Y K i)) (n32 i) Q := by
    intro m
    induction m with
    | zero =>
      intro i e
      have e' : i = K + 1 := by omega
      subst e'
      refine l_72_4 ⟨fun _ => H, fun z => absurd ?_ z⟩
      rw [s.1, n_lt (by omega) (by omega)]
      omega
    | succ m ih =>
      intro i e
      have g4 := gE_le s (i := i)
      have m4 := (gS_le s i (by omega)).2.2
      refine l_72_4 ⟨fun z => ?_, fun _ => s_68 s hK (by omega) (s_185 ?_)⟩
      · rw [s.1, n_lt (by omega) (by omega)] at z
        omega
      · rw [show n32 i + 1 = n32 (i + 1) from n_add i 1, n_max (by omega) (by omega)]
        exact ih (i + 1) (by omega)
  exact l_72_0 (lp (K + 1) 0 (by omega))
/-- the reference's scan: from a gap's beginning on -/
theorem s_183_l {Q : Int32 → xW → Prop} {x : Int32} (s : ST Y (fA Y xM) K) (hK : K ≤ 40) (H : ∀ r, L_183_18 V g Y x (n32 (gS Y K (K + 1))) (n32 (gC Y K (K + 1))) (n32 (gM Y K (K + 1))) r (n32 4096) Q) : ∀ m i, i + m = K → L_183_18 V g Y x (n32 (gS Y K i)) (n32 (gC Y K i)) (n32 (gM Y K i)) 0 (n32 (gB Y i)) Q := by
  -- within a region
  have reg : ∀ i, i < K → (∀ a b c, a = n32 (gS Y K (i + 1)) → b = n32 (gC Y K (i + 1)) → c = n32 (gM Y K (i + 1)) → L_183_18 V g Y x a b c 0 (n32 (gB Y (i + 1))) Q) → ∀ m t r, t + m = rS Y i → (m = 0 → r = 0) → L_183_18 V g Y x (n32 (gS Y K (i + 1))) (n32 (gC Y K (i + 1))) (n32 (gM Y K (i + 1))) r (n32 (rB Y i + t)) Q := by
    intro i hi nx m
    induction m with
    | zero =>
      intro t r e hr
      have := nx _ _ _ rfl rfl rfl
      rw [gB_s] at this
      rw [hr rfl, show t = rS Y i from by omega]
      exact this
    | succ m ih =>
      intro t r e hr
      have b4 := (s.2.2.1 i hi).2.2.2
      refine l_183_18 ⟨fun z => absurd ((n_le (a := 4096) (by omega) (by omega)).mp z) (by omega), fun _ => ⟨n_in (by omega) (by omega), ?_⟩⟩
      rw [n_nat (by omega), reg_taken s hi (by omega) (by omega)]
      refine ⟨fun z => absurd z (by decide), fun _ => l_183_66 ?_⟩
      rw [show n32 (rB Y i + t) + 1 = n32 (rB Y i + (t + 1)) from n_add _ 1]
      exact ih (t + 1) 0 (by omega) (fun _ => rfl)
  -- within a gap
  have gap : ∀ i, i ≤ K → (∀ r, L_183_18 V g Y x (n32 (gS Y K (i + 1))) (n32 (gC Y K (i + 1))) (n32 (gM Y K (i + 1))) r (n32 (gE Y K i)) Q) → ∀ m t, t + m = gE Y K i - gB Y i → L_183_18 V g Y x (n32 (gS Y K i + t)) (n32 (gC Y K i + (if t = 0 then 0 else 1))) (n32 (max (gM Y K i) t)) (n32 t) (n32 (gB Y i + t)) Q := by
    intro i hi nx m
    have gl := gap_le s hi
    have g4 := gE_le s (i := i)
    obtain ⟨q1, q2, q3⟩ := gS_le s i (by omega)
    induction m with
    | zero =>
      intro t e
      have e' : t = gE Y K i - gB Y i := by omega
      have := nx (n32 t)
      unfold gS gC gM at this
      rw [← e', show gE Y K i = gB Y i + t from by omega] at this
      exact this
    | succ m ih =>
      intro t e
      have := ih (t + 1) (by omega)
      rw [if_neg (by omega)] at this
      refine l_183_18 ⟨fun z => absurd ((n_le (a := 4096) (by omega) (by omega)).mp z) (by omega), fun _ => ⟨n_in (by omega) (by omega), ?_⟩⟩
      rw [n_nat (by omega), gap_free s hi (by omega) (by omega)]
      refine ⟨fun _ => ?_, fun z => absurd rfl z⟩
      rw [show n32 t + 1 = n32 (t + 1) from n_add t 1, show n32 (gS Y K i + t) + 1 = n32 (gS Y K i + (t + 1)) from n_add _ 1]
      have m57 : ∀ b, b = n32 (gC Y K i + 1) → L_183_57 V g Y x (n32 (gS Y K i + (t + 1))) b (n32 (max (gM Y K i) t)) (n32 (t + 1)) (n32 (gB Y i + t)) Q := by
        intro b hb
        refine l_183_57 (s_185 (l_183_66 ?_))
        rw [hb, n_max (by omega) (by omega), show n32 (gB Y i + t) + 1 = n32 (gB Y i + (t + 1)) from n_add _ 1, show max (max (gM Y K i) t) (t + 1) = max (gM Y K i) (t + 1) from by omega]
        exact this
      refine ⟨fun z => ?_, fun z => ?_⟩
      · have t0' : t = 0 := by
          have := (n_eq (b := 1) (by omega) (by omega)).mp z
          omega
        subst t0'
        rw [if_pos rfl]
        exact m57 _ (n_add _ 1)
      · have t0' : t ≠ 0 := fun y => z (by rw [y]; rfl)
        rw [if_neg t0']
        exact m57 _ rfl
  intro m
  induction m with
  | zero =>
    intro i e
    have e' : i = K := by omega
    subst e'
    have := gap i (Nat.le_refl _) (fun r => by
      have := H r
      rw [show gE Y i i = 4096 from by unfold gE; exact if_neg (by omega)]
      exact this) (gE Y i i - gB Y i) 0 (by omega)
    rw [if_pos rfl, Nat.add_zero, Nat.add_zero, Nat.add_zero, Nat.max_zero] at this
    exact this
  | succ m ih =>
    intro i e
    have ih' := ih (i + 1) (by omega)
    have s1 := (s.2.2.1 i (by omega)).2.2.1
    have rg := reg i (by omega) (fun a b c ha hb hc => by rw [ha, hb, hc]; exact ih') (rS Y i) 0
    have := gap i (by omega) (fun r => by
      have := rg r (by omega) (fun z => by omega)
      rw [show gE Y K i = rB Y i from by unfold gE; exact if_pos (by omega)]
      exact this) (gE Y K i - gB Y i) 0 (by omega)
    rw [if_pos rfl, Nat.add_zero, Nat.add_zero, Nat.add_zero, Nat.max_zero] at this
    exact this
end SG
