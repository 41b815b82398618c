/-! ===== programs: a form against the text, and the reference's reading ===== -/
def sgL : Nat → List Nat
  | 0 => [35, 32, 42, 32, 42]
  | 1 => [42]
  | 2 => [42, 32, 42]
  | 3 => [42]
  | 4 => [35]
  | 5 => [35, 32, 35]
  | 6 => [42, 32, 35, 32, 42]
  | 7 => [42]
  | _ => []
def wdL (w : Nat) : List Nat := (List.range' 0 (wl w)).map (wd w)
theorem fmL_w : ∀ w, w < 9 → fmL w = wdL w ++ sgL w := by decide
/-- a form's signs against the text from h on: whether all are there, where it ends or fails -/
def mF (T : List Nat) : List Nat → Nat → Bool × Nat
  | [], h => (true, h)
  | c :: F, h => if msg T c h = h then (false, h) else mF T F (msg T c h)
theorem mt_s (T : List Nat) (h w n : Nat) : mt T h w (n + 1) = (mt T h w n && (decide (n < wl w) && decide (T[h + n]? = some (wd w n)))) := rfl
theorem mt_dn {T : List Nat} {h w : Nat} : ∀ {n m}, m ≤ n → mt T h w n = true → mt T h w m = true
  | 0, m, hm, e => by rw [Nat.le_zero.mp hm]; rfl
  | n + 1, m, hm, e => by
    by_cases h1 : m = n + 1
    · rw [h1]; exact e
    · rw [mt_s, Bool.and_eq_true] at e
      exact mt_dn (by omega) e.1
theorem mt_ch {T : List Nat} {h w n i : Nat} (e : mt T h w n = true) (hi : i < n) : i < wl w ∧ T[h + i]? = some (wd w i) := by
  have e1 := mt_dn (show i + 1 ≤ n by omega) e
  rw [mt_s] at e1
  simp only [Bool.and_eq_true, decide_eq_true_eq] at e1
  exact e1.2
theorem wd2 : ∀ w, w < 9 → ∀ k, k < 9 → wd w 0 = wd k 0 → wd w 1 = wd k 1 → w = k := by decide
/-- two words that both fit two letters are one -/
theorem mt2 {T : List Nat} {h w k : Nat} (hw : w < 9) (hk : k < 9) (e : mt T h w 2 = true) (e' : mt T h k 2 = true) : w = k := by
  have a0 := (mt_ch e (i := 0) (by omega)).2
  have a1 := (mt_ch e (i := 1) (by omega)).2
  rw [(mt_ch e' (i := 0) (by omega)).2] at a0
  rw [(mt_ch e' (i := 1) (by omega)).2] at a1
  exact wd2 w hw k hk (Option.some.inj a0).symm (Option.some.inj a1).symm
/-- how many letters of a word fit -/
def lmU (T : List Nat) (h w : Nat) : Nat → Nat
  | 0 => 0
  | k + 1 => if mt T h w (k + 1) = true then k + 1 else lmU T h w k
def lm (T : List Nat) (h w : Nat) : Nat := lmU T h w (wl w)
theorem lmU_mt (T : List Nat) (h w : Nat) : ∀ k, mt T h w (lmU T h w k) = true ∧ lmU T h w k ≤ k
  | 0 => ⟨rfl, Nat.le_refl _⟩
  | k + 1 => by
    have ih := lmU_mt T h w k
    by_cases e : mt T h w (k + 1) = true
    · have e2 : lmU T h w (k + 1) = k + 1 := if_pos e
      rw [e2]; exact ⟨e, Nat.le_refl _⟩
    · have e2 : lmU T h w (k + 1) = lmU T h w k := if_neg e
      rw [e2]; exact ⟨ih.1, by omega⟩
theorem lmU_is {T : List Nat} {h w n : Nat} (e1 : mt T h w n = true) (e2 : ¬ mt T h w (n + 1) = true) : ∀ k, n ≤ k → lmU T h w k = n
  | 0, hk => (Nat.le_zero.mp hk).symm
  | k + 1, hk => by
    by_cases e : mt T h w (k + 1) = true
    · have : k + 1 = n := by
        rcases Nat.lt_or_ge n (k + 1) with z | z
        · exact absurd (mt_dn (show n + 1 ≤ k + 1 by omega) e) e2
        · omega
      have e3 : lmU T h w (k + 1) = k + 1 := if_pos e
      rw [e3, this]
    · have e3 : lmU T h w (k + 1) = lmU T h w k := if_neg e
      rw [e3]
      have hnk : n ≠ k + 1 := fun z => e (z ▸ e1)
      exact lmU_is e1 e2 k (by omega)
theorem mt_over {T : List Nat} {h w : Nat} : ¬ mt T h w (wl w + 1) = true := by
  rw [mt_s]
  simp only [Bool.and_eq_true, decide_eq_true_eq]
  omega
theorem lm_mt (T : List Nat) (h w : Nat) : mt T h w (lm T h w) = true ∧ lm T h w ≤ wl w := lmU_mt T h w (wl w)
theorem lm_ge {T : List Nat} {h w n : Nat} (e : mt T h w n = true) : n ≤ lm T h w := by
  have h1 := lm_mt T h w
  by_cases z : mt T h w (lm T h w + 1) = true
  · have hle := mt_le z
    have : lm T h w = lmU T h w (wl w) := rfl
    have hk : ∀ k, lm T h w + 1 ≤ k → lm T h w + 1 ≤ lmU T h w k := by
      intro k
      induction k with
      | zero => intro hk; omega
      | succ k ih =>
        intro hk
        by_cases e3 : mt T h w (k + 1) = true
        · have e4 : lmU T h w (k + 1) = k + 1 := if_pos e3
          omega
        · have e4 : lmU T h w (k + 1) = lmU T h w k := if_neg e3
          have hne : lm T h w + 1 ≠ k + 1 := fun q => e3 (q ▸ z)
          have := ih (by omega)
          omega
    have := hk _ hle
    omega
  · rcases Nat.lt_or_ge (lm T h w) n with q | q
    · exact absurd (mt_dn (show lm T h w + 1 ≤ n by omega) e) z
    · exact q
theorem wd_ns : ∀ w, w < 9 → ∀ n, n < wl w → wd w n ≠ 35 ∧ wd w n ≠ 42 := by decide
theorem mF_letters {T : List Nat} {h w : Nat} {S : List Nat} (hw : w < 9) : ∀ m n, n + m = wl w → mt T h w n = true → mF T ((List.range' n m).map (wd w) ++ S) (h + n) = if lm T h w = wl w then mF T S (h + wl w) else (false, h + lm T h w)
  | 0, n, e, hm => by
    have hn : n = wl w := by omega
    subst hn
    rw [if_pos (Nat.le_antisymm (lm_mt T h w).2 (lm_ge hm))]
    rfl
  | m + 1, n, e, hm => by
    obtain ⟨s1, s2⟩ := wd_ns w hw n (by omega)
    have hms : msg T (wd w n) (h + n) = if T[h + n]? = some (wd w n) then h + n + 1 else h + n := by unfold msg; rw [if_neg s1, if_neg s2]
    show (if msg T (wd w n) (h + n) = h + n then (false, h + n) else mF T ((List.range' (n + 1) m).map (wd w) ++ S) (msg T (wd w n) (h + n))) = _
    rw [hms]
    by_cases ht : T[h + n]? = some (wd w n)
    · rw [if_pos ht, if_neg (by omega)]
      have h2 : mt T h w (n + 1) = true := by
        rw [mt_s, hm]
        simp only [Bool.true_and, Bool.and_eq_true, decide_eq_true_eq]
        exact ⟨by omega, ht⟩
      exact mF_letters hw m (n + 1) (by omega) h2
    · rw [if_neg ht, if_pos rfl]
      have h2 : ¬ mt T h w (n + 1) = true := fun z => ht (mt_ch z (i := n) (by omega)).2
      have e3 : lm T h w = n := lmU_is hm h2 _ (by omega)
      rw [e3, if_neg (by omega)]
theorem mF_fm {T : List Nat} {h w : Nat} (hw : w < 9) : mF T (fmL w) h = if lm T h w = wl w then mF T (sgL w) (h + wl w) else (false, h + lm T h w) := by
  rw [fmL_w w hw]
  exact mF_letters hw (wl w) 0 (by omega) rfl
theorem mF_ge (T : List Nat) : ∀ F h, h ≤ T.length → h ≤ (mF T F h).2 ∧ (mF T F h).2 ≤ T.length
  | [], h, hh => ⟨Nat.le_refl _, hh⟩
  | c :: F, h, hh => by
    have hm : h ≤ msg T c h ∧ msg T c h ≤ T.length := by
      unfold msg
      split
      · have := dgt_le T 1 h 0 hh; omega
      · split
        · have := dgt_le T 3 h 0 hh; omega
        · split
          · rename_i e
            have := (List.getElem?_eq_some_iff.mp e).1
            omega
          · omega
    show h ≤ (if msg T c h = h then (false, h) else mF T F (msg T c h)).2 ∧ _
    have ih := mF_ge T F (msg T c h) hm.2
    show h ≤ (if msg T c h = h then (false, h) else mF T F (msg T c h)).2 ∧ (if msg T c h = h then (false, h) else mF T F (msg T c h)).2 ≤ T.length
    split
    · exact ⟨Nat.le_refl _, hh⟩
    · omega
/-- a number and what follows -/
def dF (T : List Nat) (m h : Nat) (K : Nat → Bool × Nat) : Bool × Nat := if (dgt T m h 0).2 = h then (false, h) else K (dgt T m h 0).2
theorem mF_35 (T : List Nat) (F : List Nat) (h : Nat) : mF T (35 :: F) h = dF T 1 h (mF T F) := rfl
theorem mF_42 (T : List Nat) (F : List Nat) (h : Nat) : mF T (42 :: F) h = dF T 3 h (mF T F) := rfl
theorem mF_32 (T : List Nat) (F : List Nat) (h : Nat) : mF T (32 :: F) h = if T[h]? = some 32 then mF T F (h + 1) else (false, h) := by
  show (if (if T[h]? = some 32 then h + 1 else h) = h then (false, h) else mF T F (if T[h]? = some 32 then h + 1 else h)) = _
  by_cases e : T[h]? = some 32
  · rw [if_pos e, if_pos e, if_neg (by omega)]
  · rw [if_neg e, if_neg e, if_pos rfl]
theorem dgR_d {T : List Nat} {m h : Nat} {K : Nat → Bool × Nat} : dF T m h K = if (dgR T m h).1 = true then (false, (dgR T m h).2.2) else K (dgR T m h).2.2 := by
  unfold dF dgR
  by_cases e : (dgt T m h 0).2 = h
  · rw [if_pos e]
    simp only [e, beq_self_eq_true, if_true]
  · rw [if_neg e]
    simp only [beq_iff_eq, e, if_false]
theorem mF_st {T : List Nat} {m h : Nat} {F : List Nat} {c : Nat} (hcm : (c = 35 ∧ m = 1) ∨ (c = 42 ∧ m = 3)) : mF T (32 :: c :: F) h = if (bhR T m h).1 = true then (false, (bhR T m h).2.2) else mF T F (bhR T m h).2.2 := by
  rw [mF_32]
  unfold bhR
  by_cases e : T[h]? = some 32
  · rw [if_pos e, if_pos e]
    rcases hcm with ⟨rfl, rfl⟩ | ⟨rfl, rfl⟩
    · rw [mF_35, dgR_d]
    · rw [mF_42, dgR_d]
  · rw [if_neg e, if_neg e, if_pos rfl]
theorem stN_n (T : List Nat) (b : Bool) (h : Nat) : stN none T b h = (b, 0, h) := rfl
theorem stN_t (T : List Nat) (m h : Nat) : stN (some m) T true h = (true, 0, h) := rfl
theorem stN_f (T : List Nat) (m h : Nat) : stN (some m) T false h = bhR T m h := rfl
/-- the signs behind a word read as the reference reads them -/
theorem mF_sg {T : List Nat} : ∀ w, w < 9 → ∀ q, mF T (sgL w) q = (!(cmS T w q).1, (cmS T w q).2.2) := by
  have one : ∀ m q, (if (dgR T m q).1 = true then (false, (dgR T m q).2.2) else mF T [] (dgR T m q).2.2) = (!(dgR T m q).1, (dgR T m q).2.2) := by
    intro m q
    cases (dgR T m q).1 <;> rfl
  have two : ∀ m m2 c q, ((c = 35 ∧ m2 = 1) ∨ (c = 42 ∧ m2 = 3)) → (if (dgR T m q).1 = true then (false, (dgR T m q).2.2) else mF T [32, c] (dgR T m q).2.2) = (!(stN (some m2) T (dgR T m q).1 (dgR T m q).2.2).1, (stN (some m2) T (dgR T m q).1 (dgR T m q).2.2).2.2) := by
    intro m m2 c q hcm
    cases h1 : (dgR T m q).1 with
    | true => rfl
    | false =>
      rw [mF_st hcm, stN_f]
      cases (bhR T m2 (dgR T m q).2.2).1 <;> rfl
  have three : ∀ m m2 c q, ((c = 35 ∧ m2 = 1) ∨ (c = 42 ∧ m2 = 3)) → (if (dgR T m q).1 = true then (false, (dgR T m q).2.2) else mF T [32, c, 32, 42] (dgR T m q).2.2) = (!(stN (some 3) T (stN (some m2) T (dgR T m q).1 (dgR T m q).2.2).1 (stN (some m2) T (dgR T m q).1 (dgR T m q).2.2).2.2).1, (stN (some 3) T (stN (some m2) T (dgR T m q).1 (dgR T m q).2.2).1 (stN (some m2) T (dgR T m q).1 (dgR T m q).2.2).2.2).2.2) := by
    intro m m2 c q hcm
    cases h1 : (dgR T m q).1 with
    | true => rfl
    | false =>
      rw [mF_st hcm, stN_f]
      cases h2 : (bhR T m2 (dgR T m q).2.2).1 with
      | true => rfl
      | false =>
        rw [mF_st (Or.inr ⟨rfl, rfl⟩), stN_f]
        cases (bhR T 3 (bhR T m2 (dgR T m q).2.2).2.2).1 <;> rfl
  intro w hw q
  rcases (by omega : w = 0 ∨ w = 1 ∨ w = 2 ∨ w = 3 ∨ w = 4 ∨ w = 5 ∨ w = 6 ∨ w = 7 ∨ w = 8) with rfl | rfl | rfl | rfl | rfl | rfl | rfl | rfl | rfl
  · show mF T [35, 32, 42, 32, 42] q = _
    rw [mF_35, dgR_d]; exact three 1 3 42 q (Or.inr ⟨rfl, rfl⟩)
  · show mF T [42] q = _
    rw [mF_42, dgR_d]; exact one 3 q
  · show mF T [42, 32, 42] q = _
    rw [mF_42, dgR_d]; exact two 3 3 42 q (Or.inr ⟨rfl, rfl⟩)
  · show mF T [42] q = _
    rw [mF_42, dgR_d]; exact one 3 q
  · show mF T [35] q = _
    rw [mF_35, dgR_d]; exact one 1 q
  · show mF T [35, 32, 35] q = _
    rw [mF_35, dgR_d]; exact two 1 1 35 q (Or.inl ⟨rfl, rfl⟩)
  · show mF T [42, 32, 35, 32, 42] q = _
    rw [mF_42, dgR_d]; exact three 3 1 35 q (Or.inl ⟨rfl, rfl⟩)
  · show mF T [42] q = _
    rw [mF_42, dgR_d]; exact one 3 q
  · rfl
theorem anyU_is {T : List Nat} {h n w : Nat} : ∀ {k}, w < k → mt T h w n = true → anyU T h n k = true
  | 0, hw, _ => absurd hw (Nat.not_lt_zero _)
  | k + 1, hw, e => by
    show (anyU T h n k || mt T h k n) = true
    by_cases hk : w = k
    · subst hk; rw [e, Bool.or_true]
    · rw [anyU_is (by omega) e, Bool.true_or]
theorem lwU_is {T : List Nat} {h n w : Nat} : ∀ {k}, lwU T h n k = some w → w < k ∧ mt T h w n = true ∧ n = wl w
  | 0, e => by cases e
  | k + 1, e => by
    have hu : lwU T h n (k + 1) = if mt T h k n = true ∧ n = wl k then some k else lwU T h n k := rfl
    rw [hu] at e
    by_cases hq : mt T h k n = true ∧ n = wl k
    · rw [if_pos hq] at e; cases e; exact ⟨by omega, hq⟩
    · rw [if_neg hq] at e
      obtain ⟨h1, h2⟩ := lwU_is e
      exact ⟨by omega, h2⟩
theorem lwU_no {T : List Nat} {h n : Nat} : ∀ {k}, lwU T h n k = none → ∀ w, w < k → ¬ (mt T h w n = true ∧ n = wl w)
  | 0, _, w, hw => absurd hw (Nat.not_lt_zero _)
  | k + 1, e, w, hw => by
    have hu : lwU T h n (k + 1) = if mt T h k n = true ∧ n = wl k then some k else lwU T h n k := rfl
    rw [hu] at e
    by_cases hq : mt T h k n = true ∧ n = wl k
    · rw [if_pos hq] at e; cases e
    · rw [if_neg hq] at e
      by_cases hk : w = k
      · subst hk; exact hq
      · exact lwU_no e w (by omega)
theorem wl_4 : ∀ w, w < 9 → 4 ≤ wl w ∧ wl w ≤ 7 := by decide
theorem wdR_s (T : List Nat) (h f n : Nat) : wdR T h (f + 1) n = if anyU T h (n + 1) 9 = true then (match lwU T h (n + 1) 9 with
    | some w => (some w, h + (n + 1))
    | none => wdR T h f (n + 1)) else (none, h + n) := rfl
/-- the whole word is read -/
theorem wdR_yes {T : List Nat} {h w : Nat} (hw : w < 9) (e : mt T h w (wl w) = true) : ∀ f n, n < wl w → wl w ≤ f + n → wdR T h f n = (some w, h + wl w)
  | 0, n, h1, h2 => by omega
  | f + 1, n, h1, h2 => by
    have h4 := wl_4 w hw
    rw [wdR_s, if_pos (anyU_is hw (mt_dn (show n + 1 ≤ wl w by omega) e))]
    cases hl : lwU T h (n + 1) 9 with
    | some w' =>
      obtain ⟨g1, g2, g3⟩ := lwU_is hl
      have h5 := wl_4 w' g1
      have hww : w' = w := mt2 g1 hw (mt_dn (show 2 ≤ n + 1 by omega) g2) (mt_dn (show 2 ≤ wl w by omega) e)
      subst hww
      rw [g3]
    | none =>
      have hne : n + 1 ≠ wl w := fun z => lwU_no hl w hw ⟨z ▸ e, z⟩
      exact wdR_yes hw e f (n + 1) (by omega) (by omega)
/-- no word is there whole -/
theorem wdR_not {T : List Nat} {h : Nat} (hno : ∀ w, w < 9 → ¬ mt T h w (wl w) = true) : ∀ f n, 8 ≤ f + n → (n = 0 ∨ ∃ w, w < 9 ∧ mt T h w n = true) → ∃ N, wdR T h f n = (none, h + N) ∧ (N = 0 ∨ ∃ w, w < 9 ∧ mt T h w N = true) ∧ ∀ w, w < 9 → lm T h w ≤ N
  | 0, n, h1, h2 => by
    refine ⟨n, rfl, h2, fun w hw => ?_⟩
    have := (lm_mt T h w).2
    have := wl_4 w hw
    omega
  | f + 1, n, h1, h2 => by
    rw [wdR_s]
    by_cases ha : anyU T h (n + 1) 9 = true
    · rw [if_pos ha]
      cases hl : lwU T h (n + 1) 9 with
      | some w' =>
        obtain ⟨g1, g2, g3⟩ := lwU_is hl
        exact absurd (g3 ▸ g2) (hno w' g1)
      | none => exact wdR_not hno f (n + 1) (by omega) (Or.inr (anyU_ex ha))
    · rw [if_neg ha]
      refine ⟨n, rfl, h2, fun w hw => ?_⟩
      rcases Nat.lt_or_ge n (lm T h w) with z | z
      · exact absurd (anyU_is hw (mt_dn (show n + 1 ≤ lm T h w by omega) (lm_mt T h w).1)) ha
      · exact z
/-- the greatest place where one of the first forms fails -/
def mxF (T : List Nat) (h : Nat) : Nat → Nat
  | 0 => h
  | k + 1 => max (mxF T h k) (mF T (fmL k) h).2
theorem mxF_le {T : List Nat} {h B : Nat} (hB : h ≤ B) : ∀ k, (∀ i, i < k → (mF T (fmL i) h).2 ≤ B) → mxF T h k ≤ B
  | 0, _ => hB
  | k + 1, hq => Nat.max_le.mpr ⟨mxF_le hB k (fun i hi => hq i (by omega)), hq k (by omega)⟩
theorem mxF_ge {T : List Nat} {h i : Nat} : ∀ k, i < k → (mF T (fmL i) h).2 ≤ mxF T h k
  | 0, hi => absurd hi (Nat.not_lt_zero _)
  | k + 1, hi => by
    by_cases hk : i = k
    · subst hk; exact Nat.le_max_right _ _
    · exact Nat.le_trans (mxF_ge k (by omega)) (Nat.le_max_left _ _)
theorem lm_other {T : List Nat} {h w k : Nat} (hw : w < 9) (hk : k < 9) (hne : k ≠ w) (e : mt T h w (wl w) = true) : lm T h k ≤ 1 := by
  rcases Nat.lt_or_ge 1 (lm T h k) with z | z
  · have h4 := wl_4 w hw
    exact absurd (mt2 hk hw (mt_dn (show 2 ≤ lm T h k by omega) (lm_mt T h k).1) (mt_dn (show 2 ≤ wl w by omega) e)) hne
  · exact z
theorem lm_full {T : List Nat} {h w : Nat} : lm T h w = wl w ↔ mt T h w (wl w) = true := ⟨fun z => z ▸ (lm_mt T h w).1, fun z => Nat.le_antisymm (lm_mt T h w).2 (lm_ge z)⟩
/-- a form that is there is the reference's command -/
theorem cmd_yes {T : List Nat} {h w : Nat} (hw : w < 9) (e : (mF T (fmL w) h).1 = true) : lm T h w = wl w ∧ cmdR T h = cmS T w (h + wl w) ∧ (cmdR T h).1 = false ∧ (cmdR T h).2.2 = (mF T (fmL w) h).2 := by
  rw [mF_fm hw] at e ⊢
  by_cases hl : lm T h w = wl w
  · rw [if_pos hl] at e ⊢
    rw [mF_sg w hw] at e ⊢
    have h4 := wl_4 w hw
    have e2 : cmdR T h = cmS T w (h + wl w) := by
      unfold cmdR
      rw [wdR_yes hw (lm_full.mp hl) 8 0 (by omega) (by omega)]
    refine ⟨hl, e2, ?_, by rw [e2]⟩
    rw [e2]
    simpa using e
  · rw [if_neg hl] at e; cases e
/-- where none is, both stop at one place -/
theorem cmd_no {T : List Nat} {h : Nat} (hno : ∀ w, w < 9 → (mF T (fmL w) h).1 = false) : (cmdR T h).1 = true ∧ (cmdR T h).2.2 = mxF T h 9 := by
  by_cases hx : ∃ w, w < 9 ∧ lm T h w = wl w
  · obtain ⟨w, hw, hl⟩ := hx
    have h4 := wl_4 w hw
    have e2 : cmdR T h = cmS T w (h + wl w) := by
      unfold cmdR
      rw [wdR_yes hw (lm_full.mp hl) 8 0 (by omega) (by omega)]
    have h1 := hno w hw
    have hm : mF T (fmL w) h = (!(cmS T w (h + wl w)).1, (cmS T w (h + wl w)).2.2) := by rw [mF_fm hw, if_pos hl, mF_sg w hw]
    rw [hm] at h1
    have h1 : (cmS T w (h + wl w)).1 = true := by simpa using h1
    refine ⟨by rw [e2]; exact h1, ?_⟩
    rw [e2]
    have hge : h + wl w ≤ (cmS T w (h + wl w)).2.2 := by
      have := stN_ge T (cm3 w) (cmQ T w (h + wl w)).1 (cmQ T w (h + wl w)).2.2
      have h6 := stN_ge T (cm2 w) (cmP T w (h + wl w)).1 (cmP T w (h + wl w)).2.2
      have h7 : h + wl w ≤ (cmP T w (h + wl w)).2.2 := by
        unfold cmP
        split
        · exact dgt_ge T _ _ _
        · exact Nat.le_refl _
      exact Nat.le_trans h7 (Nat.le_trans h6 this)
    refine Nat.le_antisymm ?_ (mxF_le (by omega) 9 (fun i hi => ?_))
    · have := mxF_ge (T := T) (h := h) 9 hw
      rw [hm] at this
      exact this
    · by_cases hiw : i = w
      · subst hiw; rw [hm]; exact Nat.le_refl _
      · have h5 := lm_other hw hi hiw (lm_full.mp hl)
        have h6 := wl_4 i hi
        rw [mF_fm hi, if_neg (by omega)]
        show h + lm T h i ≤ _
        omega
  · have hno2 : ∀ w, w < 9 → ¬ mt T h w (wl w) = true := fun w hw z => hx ⟨w, hw, lm_full.mpr z⟩
    have hf : ∀ w, w < 9 → mF T (fmL w) h = (false, h + lm T h w) := fun w hw => by
      rw [mF_fm hw, if_neg (fun z => hx ⟨w, hw, z⟩)]
    obtain ⟨N, e, hN, hall⟩ := wdR_not hno2 8 0 (by omega) (Or.inl rfl)
    have e2 : cmdR T h = (true, (0, 0, 0, 0), h + N) := by unfold cmdR; rw [e]
    rw [e2]
    refine ⟨rfl, Nat.le_antisymm ?_ (mxF_le (show h ≤ h + N by omega) 9 (fun i hi => ?_))⟩
    · show h + N ≤ _
      rcases hN with rfl | ⟨w, hw, hm⟩
      · exact Nat.le_trans (Nat.le_add_right h (lm T h 0)) (by have := mxF_ge (T := T) (h := h) 9 (show 0 < 9 by omega); rw [hf 0 (by omega)] at this; exact this)
      · have := mxF_ge (T := T) (h := h) 9 hw
        rw [hf w hw] at this
        have h2 := lm_ge hm
        exact Nat.le_trans (by omega) this
    · rw [hf i hi]
      have := hall i hi
      show h + lm T h i ≤ h + N
      omega
