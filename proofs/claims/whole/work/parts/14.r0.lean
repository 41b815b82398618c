/-! ===== what can be redeemed: sums over sets ===== -/
/-- d coins and m minutes are the sums of some of the first k -/
def acA (ok : Nat → Bool) (D M : Nat → Nat) : Nat → Nat → Nat → Prop
  | 0, d, m => d = 0 ∧ m = 0
  | k + 1, d, m => acA ok D M k d m ∨ (ok k = true ∧ ∃ d' m', acA ok D M k d' m' ∧ d = d' + D k ∧ m = m' + M k)
/-- m is the most for c coins -/
def isMx (ok : Nat → Bool) (D M : Nat → Nat) (k c m : Nat) : Prop := (∃ d, acA ok D M k d m ∧ d ≤ c) ∧ ∀ d' m', acA ok D M k d' m' → d' ≤ c → m' ≤ m
theorem acA_00 (ok : Nat → Bool) (D M : Nat → Nat) : ∀ k, acA ok D M k 0 0
  | 0 => ⟨rfl, rfl⟩
  | k + 1 => Or.inl (acA_00 ok D M k)
theorem isMx_u {ok : Nat → Bool} {D M : Nat → Nat} {k c m m' : Nat} (h : isMx ok D M k c m) (h' : isMx ok D M k c m') : m = m' := by
  obtain ⟨⟨d, h1, h2⟩, h3⟩ := h
  obtain ⟨⟨d', g1, g2⟩, g3⟩ := h'
  have := h3 d' m' g1 g2
  have := g3 d m h1 h2
  omega
def sumB (f : Nat → Nat) (s : Nat) : Nat → Nat
  | 0 => 0
  | k + 1 => sumB f s k + (if s.testBit k = true then f k else 0)
def okB (ok : Nat → Bool) (s : Nat) : Nat → Bool
  | 0 => true
  | k + 1 => okB ok s k && (!s.testBit k || ok k)
theorem sumB_s (f : Nat → Nat) (s k : Nat) : sumB f s (k + 1) = sumB f s k + (if s.testBit k = true then f k else 0) := rfl
theorem sumB_congr {f : Nat → Nat} {s s' : Nat} : ∀ {k}, (∀ i, i < k → s.testBit i = s'.testBit i) → sumB f s k = sumB f s' k
  | 0, _ => rfl
  | k + 1, h => by
    unfold sumB
    rw [sumB_congr (fun i hi => h i (by omega)), h k (by omega)]
theorem okB_congr {f : Nat → Bool} {s s' : Nat} : ∀ {k}, (∀ i, i < k → s.testBit i = s'.testBit i) → okB f s k = okB f s' k
  | 0, _ => rfl
  | k + 1, h => by
    unfold okB
    rw [okB_congr (fun i hi => h i (by omega)), h k (by omega)]
theorem acA_of {ok : Nat → Bool} {D M : Nat → Nat} {s : Nat} : ∀ k, okB ok s k = true → acA ok D M k (sumB D s k) (sumB M s k)
  | 0, _ => ⟨rfl, rfl⟩
  | k + 1, h => by
    unfold okB at h
    simp only [Bool.and_eq_true, Bool.or_eq_true, Bool.not_eq_true'] at h
    have ih := acA_of (D := D) (M := M) k h.1
    unfold sumB
    cases hb : s.testBit k with
    | false =>
      simp only [Bool.false_eq_true, if_false, Nat.add_zero]
      exact Or.inl ih
    | true =>
      rw [hb] at h
      simp only [if_true]
      exact Or.inr ⟨h.2.elim (fun z => by cases z) id, _, _, ih, rfl, rfl⟩
theorem bit_lo {s k : Nat} (h : s < 2 ^ k) {i : Nat} (hi : k ≤ i) : s.testBit i = false := by
  refine Nat.testBit_lt_two_pow (Nat.lt_of_lt_of_le h (Nat.pow_le_pow_right (by omega) hi))
theorem bit_add {s k : Nat} (h : s < 2 ^ k) (i : Nat) : (2 ^ k + s).testBit i = if i = k then true else if i < k then s.testBit i else false := by
  by_cases h1 : i = k
  · subst h1
    rw [if_pos rfl, Nat.testBit_two_pow_add_eq, bit_lo h (Nat.le_refl _)]
    rfl
  · rw [if_neg h1]
    by_cases h2 : i < k
    · rw [if_pos h2, Nat.testBit_two_pow_add_gt h2]
    · rw [if_neg h2]
      refine bit_lo (k := k + 1) ?_ (by omega)
      rw [Nat.pow_succ]
      omega
theorem acA_ex {ok : Nat → Bool} {D M : Nat → Nat} : ∀ {k d m}, acA ok D M k d m → ∃ s, s < 2 ^ k ∧ okB ok s k = true ∧ d = sumB D s k ∧ m = sumB M s k
  | 0, d, m, h => ⟨0, by decide, rfl, h.1, h.2⟩
  | k + 1, d, m, h => by
    rcases h with h | ⟨h, d', m', h1, rfl, rfl⟩
    · obtain ⟨s, s1, s2, rfl, rfl⟩ := acA_ex h
      have hk := bit_lo s1 (Nat.le_refl k)
      refine ⟨s, by rw [Nat.pow_succ]; omega, ?_, ?_, ?_⟩
      · unfold okB; rw [s2, hk]; rfl
      · rw [sumB_s, hk]; rfl
      · rw [sumB_s, hk]; rfl
    · obtain ⟨s, s1, s2, rfl, rfl⟩ := acA_ex h1
      have hb := bit_add s1
      have hc : ∀ i, i < k → (2 ^ k + s).testBit i = s.testBit i := fun i hi => by rw [hb, if_neg (by omega), if_pos hi]
      have hk : (2 ^ k + s).testBit k = true := by rw [hb, if_pos rfl]
      refine ⟨2 ^ k + s, by rw [Nat.pow_succ]; omega, ?_, ?_, ?_⟩
      · unfold okB; rw [okB_congr hc, s2, hk, h]; rfl
      · rw [sumB_s, sumB_congr hc, hk]; rfl
      · rw [sumB_s, sumB_congr hc, hk]; rfl
/-- a customer's pledge -/
def cpl (a : Nat → Nat) (p : Int32) (i : Nat) : Bool := !isLot a i && decide (nI (it a i 2) = p)
theorem okU_B (a : Nat → Nat) (p : Int32) (s : Nat) : ∀ k, okU a p s k = okB (cpl a p) s k
  | 0 => rfl
  | k + 1 => by unfold okU okB cpl; rw [okU_B a p s k]; rfl
theorem dbS_B (a : Nat → Nat) (s : Nat) : ∀ k, dbS a s k = sumB (debt a) s k
  | 0 => rfl
  | k + 1 => by unfold dbS sumB; rw [dbS_B a s k]
theorem mnS_B (a : Nat → Nat) (s : Nat) : ∀ k, mnS a s k = sumB (fun i => it a i 3) s k
  | 0 => rfl
  | k + 1 => by unfold mnS sumB; rw [mnS_B a s k]
theorem moU_ge {a : Nat → Nat} {p : Int32} {c : Nat} : ∀ {S s}, s < S → okU a p s (a 4) = true → dbS a s (a 4) ≤ c → mnS a s (a 4) ≤ moU a p c S
  | 0, s, h, _, _ => by omega
  | S + 1, s, h, h1, h2 => by
    have hm : moU a p c S ≤ moU a p c (S + 1) := by
      show _ ≤ (if okU a p S (a 4) = true ∧ dbS a S (a 4) ≤ c ∧ moU a p c S < mnS a S (a 4) then mnS a S (a 4) else moU a p c S)
      split
      · rename_i q; exact Nat.le_of_lt q.2.2
      · exact Nat.le_refl _
    by_cases hs : s = S
    · subst hs
      show _ ≤ (if okU a p s (a 4) = true ∧ dbS a s (a 4) ≤ c ∧ moU a p c s < mnS a s (a 4) then mnS a s (a 4) else moU a p c s)
      split
      · exact Nat.le_refl _
      · rename_i q
        exact Nat.le_of_not_lt (fun z => q ⟨h1, h2, z⟩)
    · exact Nat.le_trans (moU_ge (by omega) h1 h2) hm
theorem moU_ex {a : Nat → Nat} {p : Int32} {c : Nat} : ∀ S, ∃ s, okU a p s (a 4) = true ∧ dbS a s (a 4) ≤ c ∧ mnS a s (a 4) = moU a p c S
  | 0 => by
    have h0 : ∀ k, okU a p 0 k = true ∧ dbS a 0 k = 0 ∧ mnS a 0 k = 0 := by
      intro k
      induction k with
      | zero => exact ⟨rfl, rfl, rfl⟩
      | succ k ih =>
        unfold okU dbS mnS
        rw [ih.1, ih.2.1, ih.2.2, Nat.zero_testBit]
        exact ⟨rfl, rfl, rfl⟩
    obtain ⟨h1, h2, h3⟩ := h0 (a 4)
    exact ⟨0, h1, by omega, h3⟩
  | S + 1 => by
    unfold moU
    split
    · rename_i q; exact ⟨S, q.1, q.2.1, rfl⟩
    · exact moU_ex S
theorem moU_mx (a : Nat → Nat) (p : Int32) (c : Nat) : isMx (cpl a p) (debt a) (fun i => it a i 3) (a 4) c (moU a p c (2 ^ a 4)) := by
  refine ⟨?_, fun d m h hd => ?_⟩
  · obtain ⟨s, s1, s2, s3⟩ := moU_ex (a := a) (p := p) (c := c) (2 ^ a 4)
    rw [okU_B] at s1
    have h := acA_of (D := debt a) (M := fun i => it a i 3) (a 4) s1
    rw [← dbS_B, ← mnS_B, s3] at h
    exact ⟨_, h, s2⟩
  · obtain ⟨s, s1, s2, rfl, rfl⟩ := acA_ex h
    rw [← dbS_B] at hd
    rw [← mnS_B]
    exact moU_ge s1 (by rw [okU_B]; exact s2) hd
/-- the customer's pledges among the first k -/
def cpN (a : Nat → Nat) (p : Int32) : Nat → Nat
  | 0 => 0
  | k + 1 => cpN a p k + (if cpl a p k = true then 1 else 0)
theorem cpN_s (a : Nat → Nat) (p : Int32) (k : Nat) : cpN a p (k + 1) = cpN a p k + (if cpl a p k = true then 1 else 0) := rfl
theorem cpN_le (a : Nat → Nat) (p : Int32) : ∀ k, cpN a p k ≤ k
  | 0 => Nat.le_refl _
  | k + 1 => by
    have := cpN_le a p k
    unfold cpN
    split <;> omega
/-- rows that hold the collected pledges' debts and minutes -/
def ClD (a : Nat → Nat) (p : Int32) (k : Nat) (D M : Nat → Nat) : Prop := ∀ i, i < k → cpl a p i = true → D (cpN a p i) = debt a i ∧ M (cpN a p i) = it a i 3
theorem acA_cl {a : Nat → Nat} {p : Int32} {D M : Nat → Nat} : ∀ {k}, ClD a p k D M → ∀ d m, acA (cpl a p) (debt a) (fun i => it a i 3) k d m ↔ acA (fun _ => true) D M (cpN a p k) d m
  | 0, _, d, m => Iff.rfl
  | k + 1, h, d, m => by
    have ih := acA_cl (k := k) (fun i hi => h i (by omega))
    show (acA (cpl a p) (debt a) (fun i => it a i 3) k d m ∨ (cpl a p k = true ∧ ∃ d' m', acA (cpl a p) (debt a) (fun i => it a i 3) k d' m' ∧ d = d' + debt a k ∧ m = m' + it a k 3)) ↔ _
    unfold cpN
    by_cases hc : cpl a p k = true
    · rw [if_pos hc]
      obtain ⟨e1, e2⟩ := h k (by omega) hc
      show _ ↔ (acA (fun _ => true) D M (cpN a p k) d m ∨ (true = true ∧ ∃ d' m', acA (fun _ => true) D M (cpN a p k) d' m' ∧ d = d' + D (cpN a p k) ∧ m = m' + M (cpN a p k)))
      rw [e1, e2]
      constructor
      · rintro (q | ⟨_, d', m', q, q1, q2⟩)
        · exact Or.inl ((ih d m).mp q)
        · exact Or.inr ⟨rfl, d', m', (ih d' m').mp q, q1, q2⟩
      · rintro (q | ⟨_, d', m', q, q1, q2⟩)
        · exact Or.inl ((ih d m).mpr q)
        · exact Or.inr ⟨hc, d', m', (ih d' m').mpr q, q1, q2⟩
    · rw [if_neg hc]
      constructor
      · rintro (q | ⟨z, _⟩)
        · exact (ih d m).mp q
        · exact absurd z hc
      · exact fun q => Or.inl ((ih d m).mpr q)
theorem mx_cl {a : Nat → Nat} {p : Int32} {D M : Nat → Nat} {c m : Nat} (h : ClD a p (a 4) D M) (hm : isMx (fun _ => true) D M (cpN a p (a 4)) c m) : m = moU a p c (2 ^ a 4) := by
  have hq := acA_cl h
  refine isMx_u ⟨?_, fun d' m' h1 h2 => hm.2 d' m' ((hq _ _).mp h1) h2⟩ (moU_mx a p c)
  obtain ⟨d, h1, h2⟩ := hm.1
  exact ⟨d, (hq _ _).mpr h1, h2⟩
theorem okB_t (s : Nat) : ∀ k, okB (fun _ => true) s k = true
  | 0 => rfl
  | k + 1 => by unfold okB; rw [okB_t s k]; cases s.testBit k <;> rfl
theorem sumB_le {f : Nat → Nat} {B : Nat} (s : Nat) : ∀ k, (∀ i, i < k → f i ≤ B) → sumB f s k ≤ B * k
  | 0, _ => Nat.zero_le _
  | k + 1, h => by
    have h1 := sumB_le (f := f) s k (fun i hi => h i (by omega))
    have h2 := h k (by omega)
    unfold sumB
    rw [Nat.mul_succ]
    split <;> omega
theorem acA_le {ok : Nat → Bool} {D M : Nat → Nat} {A B : Nat} : ∀ {k d m}, acA ok D M k d m → (∀ i, i < k → D i ≤ A) → (∀ i, i < k → M i ≤ B) → d ≤ A * k ∧ m ≤ B * k
  | 0, d, m, h, _, _ => by rw [h.1, h.2]; exact ⟨Nat.zero_le _, Nat.zero_le _⟩
  | k + 1, d, m, h, h1, h2 => by
    have a1 := h1 k (by omega)
    have a2 := h2 k (by omega)
    rw [Nat.mul_succ, Nat.mul_succ]
    rcases h with h | ⟨_, d', m', h, rfl, rfl⟩
    · have := acA_le h (fun i hi => h1 i (by omega)) (fun i hi => h2 i (by omega)); omega
    · have := acA_le h (fun i hi => h1 i (by omega)) (fun i hi => h2 i (by omega)); omega
def sumU (f : Nat → Nat) : Nat → Nat
  | 0 => 0
  | k + 1 => sumU f k + f k
theorem acA_sum {ok : Nat → Bool} {D M : Nat → Nat} : ∀ {k d m}, acA ok D M k d m → m ≤ sumU M k
  | 0, d, m, h => by rw [h.2]; exact Nat.zero_le _
  | k + 1, d, m, h => by
    unfold sumU
    rcases h with h | ⟨_, d', m', h, rfl, rfl⟩
    · have := acA_sum h; omega
    · have := acA_sum h; omega
theorem sumU_le {f : Nat → Nat} {B : Nat} : ∀ k, (∀ i, i < k → f i ≤ B) → sumU f k ≤ B * k
  | 0, _ => Nat.zero_le _
  | k + 1, h => by
    have h1 := sumU_le (f := f) k (fun i hi => h i (by omega))
    have h2 := h k (by omega)
    unfold sumU
    rw [Nat.mul_succ]
    omega
theorem dcU_cl {a : Nat → Nat} {p : Int32} {D M : Nat → Nat} : ∀ {k}, ClD a p k D M → sumU D (cpN a p k) = dcU a p k
  | 0, _ => rfl
  | k + 1, h => by
    have ih := dcU_cl (k := k) (fun i hi => h i (by omega))
    have hu : dcU a p (k + 1) = dcU a p k + (if isLot a k = false ∧ nI (it a k 2) = p then debt a k else 0) := rfl
    rw [hu, ← ih, cpN_s]
    by_cases hc : cpl a p k = true
    · rw [if_pos hc]
      have h2 := (h k (by omega) hc).1
      unfold cpl at hc
      simp only [Bool.and_eq_true, Bool.not_eq_true', decide_eq_true_eq] at hc
      rw [if_pos hc]
      show sumU D (cpN a p k) + D (cpN a p k) = _
      rw [h2]
    · rw [if_neg hc]
      have hc2 : ¬ (isLot a k = false ∧ nI (it a k 2) = p) := fun z => hc (by unfold cpl; simp only [Bool.and_eq_true, Bool.not_eq_true', decide_eq_true_eq]; exact z)
      rw [if_neg hc2]
      rfl
/-- the table's entry for m minutes: the least coins, U if there are none -/
def TbV (D M : Nat → Nat) (k m : Nat) (v : Nat) : Prop := (v = 1000000000 ∧ ∀ d, ¬ acA (fun _ => true) D M k d m) ∨ (acA (fun _ => true) D M k v m ∧ ∀ d, acA (fun _ => true) D M k d m → v ≤ d)
theorem TbV_step {D M : Nat → Nat} {k m v w : Nat} (hv : TbV D M k m v) (hM : M k ≤ m) (hw : TbV D M k (m - M k) w) (hb : ∀ d m, acA (fun _ => true) D M k d m → d ≤ 999999) (hD : D k ≤ 99999) : TbV D M (k + 1) m (if w = 1000000000 then v else min v (w + D k)) := by
  by_cases h : w = 1000000000
  · rw [if_pos h]
    have hno : ∀ d, ¬ acA (fun _ => true) D M k d (m - M k) := by
      rcases hw with ⟨_, hw⟩ | ⟨hw, _⟩
      · exact hw
      · have := hb _ _ hw; omega
    have hiff : ∀ d, acA (fun _ => true) D M (k + 1) d m ↔ acA (fun _ => true) D M k d m := by
      intro d
      constructor
      · rintro (q | ⟨_, d', m', q, _, rfl⟩)
        · exact q
        · rw [Nat.add_sub_cancel] at hno; exact absurd q (hno d')
      · exact Or.inl
    rcases hv with ⟨h1, h2⟩ | ⟨h1, h2⟩
    · exact Or.inl ⟨h1, fun d q => h2 d ((hiff d).mp q)⟩
    · exact Or.inr ⟨(hiff v).mpr h1, fun d q => h2 d ((hiff d).mp q)⟩
  · rw [if_neg h]
    obtain ⟨w1, w2⟩ : acA (fun _ => true) D M k w (m - M k) ∧ ∀ d, acA (fun _ => true) D M k d (m - M k) → w ≤ d := by
      rcases hw with ⟨z, _⟩ | hw
      · exact absurd z h
      · exact hw
    have hwb := hb _ _ w1
    have hin : acA (fun _ => true) D M (k + 1) (w + D k) m := Or.inr ⟨rfl, w, m - M k, w1, rfl, by omega⟩
    have hge : ∀ d, acA (fun _ => true) D M (k + 1) d m → min v (w + D k) ≤ d := by
      rintro d (q | ⟨_, d', m', q, rfl, rfl⟩)
      · rcases hv with ⟨_, h2⟩ | ⟨_, h2⟩
        · exact absurd q (h2 d)
        · have := h2 d q; omega
      · rw [Nat.add_sub_cancel] at w2
        have := w2 d' q
        omega
    refine Or.inr ⟨?_, hge⟩
    by_cases hvw : v ≤ w + D k
    · rw [Nat.min_eq_left hvw]
      rcases hv with ⟨z, _⟩ | ⟨h1, _⟩
      · omega
      · exact Or.inl h1
    · rw [Nat.min_eq_right (by omega)]
      exact hin
theorem TbV_lo {D M : Nat → Nat} {k m v : Nat} (hv : TbV D M k m v) (hM : m < M k) : TbV D M (k + 1) m v := by
  have hiff : ∀ d, acA (fun _ => true) D M (k + 1) d m ↔ acA (fun _ => true) D M k d m := by
    intro d
    constructor
    · rintro (q | ⟨_, d', m', q, _, rfl⟩)
      · exact q
      · omega
    · exact Or.inl
  rcases hv with ⟨h1, h2⟩ | ⟨h1, h2⟩
  · exact Or.inl ⟨h1, fun d q => h2 d ((hiff d).mp q)⟩
  · exact Or.inr ⟨(hiff v).mpr h1, fun d q => h2 d ((hiff d).mp q)⟩
theorem TbV_hi {D M : Nat → Nat} {k m : Nat} (h : sumU M k < m) : TbV D M k m 1000000000 := Or.inl ⟨rfl, fun d q => by have := acA_sum q; omega⟩
