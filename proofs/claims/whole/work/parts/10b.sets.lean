/-! ===== rows of the memory, set whole ===== -/
def uI (f : Nat → Int32) (k : Nat) (x : Int32) : Nat → Int32 := fun i => if i = k then x else f i
def uN (a : Nat → Nat) (k x : Nat) : Nat → Nat := fun i => if i = k then x else a i
def sA (τ : Mem) (K : Nat) (f : Nat → Int32) : Mem := (fun nm => if nm = (K, 0, 0) then f else τ.1 nm, τ.2)
def enc (a : Nat → Nat) : Nat → Int32 := fun k => nI (a k)
theorem uI_at (f : Nat → Int32) (k : Nat) (x : Int32) (i : Nat) : uI f k x i = if i = k then x else f i := rfl
theorem uN_at (f : Nat → Nat) (k x i : Nat) : uN f k x i = if i = k then x else f i := rfl
theorem enc_at (a : Nat → Nat) (k : Nat) : enc a k = nI (a k) := rfl
theorem uI_enc (a : Nat → Nat) (k x : Nat) : uI (enc a) k (nI x) = enc (uN a k x) := by
  funext i
  simp only [uI, uN, enc]
  split <;> rfl
theorem uI_id {f : Nat → Int32} {k : Nat} {x : Int32} (h : f k = x) : uI f k x = f := by
  funext i
  simp only [uI]
  split
  · rename_i e; rw [e, h]
  · rfl
theorem uI_uI (f : Nat → Int32) (k : Nat) (x y : Int32) : uI (uI f k x) k y = uI f k y := by
  funext i
  simp only [uI]
  split <;> rfl
theorem wI_sA (τ : Mem) (K k : Nat) (x : Int32) : wI τ (K, 0, 0) k x = sA τ K (uI (τ.1 (K, 0, 0)) k x) := by
  refine Prod.ext ?_ rfl
  funext nm i
  simp only [wI, sA, upM, uI]
  by_cases h : nm = (K, 0, 0)
  · subst h; simp [uI]
  · simp [h]
theorem sA_same (τ : Mem) (K : Nat) (f : Nat → Int32) : (sA τ K f).1 (K, 0, 0) = f := by simp [sA]
theorem sA_ne {τ : Mem} {K K' : Nat} {f : Nat → Int32} (h : K' ≠ K) (s j : Nat) : (sA τ K f).1 (K', s, j) = τ.1 (K', s, j) := by simp [sA, h]
theorem sA_2 (τ : Mem) (K : Nat) (f : Nat → Int32) : (sA τ K f).2 = τ.2 := rfl
theorem sA_sA (τ : Mem) (K : Nat) (f g : Nat → Int32) : sA (sA τ K f) K g = sA τ K g := by
  refine Prod.ext ?_ rfl
  funext nm
  simp only [sA]
  split <;> rfl
theorem sA_comm {τ : Mem} {K K' : Nat} {f g : Nat → Int32} (h : K' < K) : sA (sA τ K f) K' g = sA (sA τ K' g) K f := by
  refine Prod.ext ?_ rfl
  funext nm
  simp only [sA]
  by_cases h1 : nm = (K', 0, 0)
  · by_cases h2 : nm = (K, 0, 0)
    · rw [h1] at h2
      have := congrArg Prod.fst h2
      simp only at this
      omega
    · simp [h1]; intro e; omega
  · simp [h1]
theorem sA_id {τ : Mem} {K : Nat} {f : Nat → Int32} (h : τ.1 (K, 0, 0) = f) : sA τ K f = τ := by
  refine Prod.ext ?_ rfl
  funext nm
  simp only [sA]
  split
  · rename_i e; rw [e, h]
  · rfl
theorem itn1 {i c d : Nat} (h : d < 16) : (16 + 12 * i + c = d) = False := eq_false (by omega)
theorem itn2 {i c d : Nat} (h : d < 16) : (d = 16 + 12 * i + c) = False := eq_false (by omega)
theorem itn3 {i d : Nat} (h : d < 16) : (16 + 12 * i = d) = False := eq_false (by omega)
theorem itn4 {i d : Nat} (h : d < 16) : (d = 16 + 12 * i) = False := eq_false (by omega)
theorem itc (i c d : Nat) : (16 + 12 * i + c = 16 + 12 * i + d) = (c = d) := by rw [Nat.add_left_cancel_iff]
theorem itc0 (i d : Nat) : (16 + 12 * i = 16 + 12 * i + d) = (0 = d) := by apply propext; omega
theorem itc1 (i d : Nat) : (16 + 12 * i + d = 16 + 12 * i) = (d = 0) := by apply propext; omega
theorem upM_s (f : Nm → Nat → Int32) (nm : Nm) (k : Nat) (x : Int32) (i : Nat) : upM f nm k x nm i = if i = k then x else f nm i := by simp [upM]
theorem upM_n {f : Nm → Nat → Int32} {K K' s j s' j' k : Nat} {x : Int32} (h : K' ≠ K) (i : Nat) : upM f (K, s, j) k x (K', s', j') i = f (K', s', j') i := by simp [upM, h]
