theorem lz10_m {τ : Type} {B : (Int32 → Option τ) → Int32 → Option τ} (Q : Option τ → Prop) (I : Int32 → Prop) (ms : Int32 → Nat) (hs : ∀ (sf : Int32 → Option τ) (a0 : Int32) , I a0 → (∃ (b0 : Int32) , I b0 ∧ ms b0 < ms a0 ∧ B sf a0 = sf b0) ∨ Q (B sf a0)) : ∀ (n : Nat) (a0 : Int32) , I a0 → ms a0 < n → Q (lz10 B n a0)
  | 0, a0, h, hn => absurd hn (Nat.not_lt_zero _)
  | n + 1, a0, h, hn => by
    show Q (B (lz10 B n) a0)
    rcases hs (lz10 B n) a0 h with ⟨b0, h1, h2, h3⟩ | h1
    · rw [h3]
      exact lz10_m Q I ms hs n b0 h1 (by omega)
    · exact h1
theorem lz20_m {τ : Type} {B : (Int32 → Int32 → Option τ) → Int32 → Int32 → Option τ} (Q : Option τ → Prop) (I : Int32 → Int32 → Prop) (ms : Int32 → Int32 → Nat) (hs : ∀ (sf : Int32 → Int32 → Option τ) (a0 a1 : Int32) , I a0 a1 → (∃ (b0 b1 : Int32) , I b0 b1 ∧ ms b0 b1 < ms a0 a1 ∧ B sf a0 a1 = sf b0 b1) ∨ Q (B sf a0 a1)) : ∀ (n : Nat) (a0 a1 : Int32) , I a0 a1 → ms a0 a1 < n → Q (lz20 B n a0 a1)
  | 0, a0, a1, h, hn => absurd hn (Nat.not_lt_zero _)
  | n + 1, a0, a1, h, hn => by
    show Q (B (lz20 B n) a0 a1)
    rcases hs (lz20 B n) a0 a1 h with ⟨b0, b1, h1, h2, h3⟩ | h1
    · rw [h3]
      exact lz20_m Q I ms hs n b0 b1 h1 (by omega)
    · exact h1
theorem lz30_m {τ : Type} {B : (Int32 → Int32 → Int32 → Option τ) → Int32 → Int32 → Int32 → Option τ} (Q : Option τ → Prop) (I : Int32 → Int32 → Int32 → Prop) (ms : Int32 → Int32 → Int32 → Nat) (hs : ∀ (sf : Int32 → Int32 → Int32 → Option τ) (a0 a1 a2 : Int32) , I a0 a1 a2 → (∃ (b0 b1 b2 : Int32) , I b0 b1 b2 ∧ ms b0 b1 b2 < ms a0 a1 a2 ∧ B sf a0 a1 a2 = sf b0 b1 b2) ∨ Q (B sf a0 a1 a2)) : ∀ (n : Nat) (a0 a1 a2 : Int32) , I a0 a1 a2 → ms a0 a1 a2 < n → Q (lz30 B n a0 a1 a2)
  | 0, a0, a1, a2, h, hn => absurd hn (Nat.not_lt_zero _)
  | n + 1, a0, a1, a2, h, hn => by
    show Q (B (lz30 B n) a0 a1 a2)
    rcases hs (lz30 B n) a0 a1 a2 h with ⟨b0, b1, b2, h1, h2, h3⟩ | h1
    · rw [h3]
      exact lz30_m Q I ms hs n b0 b1 b2 h1 (by omega)
    · exact h1
theorem lz01_m {τ : Type} {B : (Mem → Option τ) → Mem → Option τ} (Q : Option τ → Prop) (I : Mem → Prop) (ms : Mem → Nat) (hs : ∀ (sf : Mem → Option τ) (m9 : Mem), I m9 → (∃ (n9 : Mem), I n9 ∧ ms n9 < ms m9 ∧ B sf m9 = sf n9) ∨ Q (B sf m9)) : ∀ (n : Nat) (m9 : Mem), I m9 → ms m9 < n → Q (lz01 B n m9)
  | 0, m9, h, hn => absurd hn (Nat.not_lt_zero _)
  | n + 1, m9, h, hn => by
    show Q (B (lz01 B n) m9)
    rcases hs (lz01 B n) m9 h with ⟨n9, h1, h2, h3⟩ | h1
    · rw [h3]
      exact lz01_m Q I ms hs n n9 h1 (by omega)
    · exact h1
theorem lz11_m {τ : Type} {B : (Int32 → Mem → Option τ) → Int32 → Mem → Option τ} (Q : Option τ → Prop) (I : Int32 → Mem → Prop) (ms : Int32 → Mem → Nat) (hs : ∀ (sf : Int32 → Mem → Option τ) (a0 : Int32) (m9 : Mem), I a0 m9 → (∃ (b0 : Int32) (n9 : Mem), I b0 n9 ∧ ms b0 n9 < ms a0 m9 ∧ B sf a0 m9 = sf b0 n9) ∨ Q (B sf a0 m9)) : ∀ (n : Nat) (a0 : Int32) (m9 : Mem), I a0 m9 → ms a0 m9 < n → Q (lz11 B n a0 m9)
  | 0, a0, m9, h, hn => absurd hn (Nat.not_lt_zero _)
  | n + 1, a0, m9, h, hn => by
    show Q (B (lz11 B n) a0 m9)
    rcases hs (lz11 B n) a0 m9 h with ⟨b0, n9, h1, h2, h3⟩ | h1
    · rw [h3]
      exact lz11_m Q I ms hs n b0 n9 h1 (by omega)
    · exact h1
theorem lz21_m {τ : Type} {B : (Int32 → Int32 → Mem → Option τ) → Int32 → Int32 → Mem → Option τ} (Q : Option τ → Prop) (I : Int32 → Int32 → Mem → Prop) (ms : Int32 → Int32 → Mem → Nat) (hs : ∀ (sf : Int32 → Int32 → Mem → Option τ) (a0 a1 : Int32) (m9 : Mem), I a0 a1 m9 → (∃ (b0 b1 : Int32) (n9 : Mem), I b0 b1 n9 ∧ ms b0 b1 n9 < ms a0 a1 m9 ∧ B sf a0 a1 m9 = sf b0 b1 n9) ∨ Q (B sf a0 a1 m9)) : ∀ (n : Nat) (a0 a1 : Int32) (m9 : Mem), I a0 a1 m9 → ms a0 a1 m9 < n → Q (lz21 B n a0 a1 m9)
  | 0, a0, a1, m9, h, hn => absurd hn (Nat.not_lt_zero _)
  | n + 1, a0, a1, m9, h, hn => by
    show Q (B (lz21 B n) a0 a1 m9)
    rcases hs (lz21 B n) a0 a1 m9 h with ⟨b0, b1, n9, h1, h2, h3⟩ | h1
    · rw [h3]
      exact lz21_m Q I ms hs n b0 b1 n9 h1 (by omega)
    · exact h1
theorem lz31_m {τ : Type} {B : (Int32 → Int32 → Int32 → Mem → Option τ) → Int32 → Int32 → Int32 → Mem → Option τ} (Q : Option τ → Prop) (I : Int32 → Int32 → Int32 → Mem → Prop) (ms : Int32 → Int32 → Int32 → Mem → Nat) (hs : ∀ (sf : Int32 → Int32 → Int32 → Mem → Option τ) (a0 a1 a2 : Int32) (m9 : Mem), I a0 a1 a2 m9 → (∃ (b0 b1 b2 : Int32) (n9 : Mem), I b0 b1 b2 n9 ∧ ms b0 b1 b2 n9 < ms a0 a1 a2 m9 ∧ B sf a0 a1 a2 m9 = sf b0 b1 b2 n9) ∨ Q (B sf a0 a1 a2 m9)) : ∀ (n : Nat) (a0 a1 a2 : Int32) (m9 : Mem), I a0 a1 a2 m9 → ms a0 a1 a2 m9 < n → Q (lz31 B n a0 a1 a2 m9)
  | 0, a0, a1, a2, m9, h, hn => absurd hn (Nat.not_lt_zero _)
  | n + 1, a0, a1, a2, m9, h, hn => by
    show Q (B (lz31 B n) a0 a1 a2 m9)
    rcases hs (lz31 B n) a0 a1 a2 m9 h with ⟨b0, b1, b2, n9, h1, h2, h3⟩ | h1
    · rw [h3]
      exact lz31_m Q I ms hs n b0 b1 b2 n9 h1 (by omega)
    · exact h1
theorem inb_n {n N : Nat} (hn : n < 2 ^ 31) : inb (nI n) N = decide (n < N) := by
  unfold inb
  rw [nI_clamp hn]
  have h0 : decide (nI n < 0) = false := decide_eq_false (nI_pos hn)
  rw [h0, Bool.false_or]
  by_cases h : n < N
  · simp [h]
  · simp [h, Nat.not_lt.mp h]
theorem ix_n {n : Nat} (hn : n < 2 ^ 31) : ix (nI n) = n := nI_clamp hn
theorem gd_t {α : Type} {c : Bool} (h : c = true) (a : Option α) : gd c a = a := by rw [h]; rfl
theorem gd_in {α : Type} {n N : Nat} (hn : n < 2 ^ 31) (h : n < N) (a : Option α) : gd (inb (nI n) N) a = a := gd_t (by rw [inb_n hn]; exact decide_eq_true h) a
theorem isb_0 : isb 0 = true := rfl
theorem isb_1 : isb 1 = true := rfl
theorem lt_def {α β : Type} (v : α) (K : α → β) : lt v K = K v := rfl
theorem bind_s {α β : Type} (a : α) (K : α → Option β) : Option.bind (some a) K = K a := rfl
theorem nI_s1 {a : Nat} : nI a + 1 = nI (a + 1) := nI_1 a
theorem nI_m1 {a : Nat} (h : 0 < a) : nI a + (-1) = nI (a - 1) := by
  obtain ⟨b, rfl⟩ : ∃ b, a = b + 1 := ⟨a - 1, by omega⟩
  exact pk_m1 b
theorem nI_sub1 {a : Nat} (h : 0 < a) : nI a - 1 = nI (a - 1) := pk_sub (b := 1) h
theorem wr_same (μ : Mem) (r : Rf) (i : Nat) (v : Int32) : wr μ r i v r = upd (μ r) i v := by simp [wr, sr]
theorem wr_ne (μ : Mem) {r r' : Rf} (i : Nat) (v : Int32) (h : r' ≠ r) : wr μ r i v r' = μ r' := by simp [wr, sr, h]
theorem sr_same (μ : Mem) (r : Rf) (g : Nat → Int32) : sr μ r g r = g := by simp [sr]
theorem sr_ne (μ : Mem) {r r' : Rf} (g : Nat → Int32) (h : r' ≠ r) : sr μ r g r' = μ r' := by simp [sr, h]
theorem upd_same (f : Nat → Int32) (k : Nat) (x : Int32) : upd f k x k = x := by simp [upd]
theorem upd_ne (f : Nat → Int32) {k j : Nat} (x : Int32) (h : j ≠ k) : upd f k x j = f j := by simp [upd, h]
/-- a count -/
def cnt (p : Nat → Bool) : Nat → Nat
  | 0 => 0
  | n + 1 => cnt p n + (if p n then 1 else 0)
theorem cnt_le (p : Nat → Bool) : ∀ n, cnt p n ≤ n
  | 0 => Nat.le_refl 0
  | n + 1 => by
    have := cnt_le p n
    unfold cnt
    split <;> omega
theorem cnt_congr {p q : Nat → Bool} : ∀ {n : Nat}, (∀ i, i < n → p i = q i) → cnt p n = cnt q n
  | 0, _ => rfl
  | n + 1, h => by
    unfold cnt
    rw [cnt_congr (fun i hi => h i (by omega)), h n (by omega)]
/-- a sum -/
def sm (f : Nat → Nat) : Nat → Nat
  | 0 => 0
  | n + 1 => sm f n + f n
theorem sm_congr {f g : Nat → Nat} : ∀ {n : Nat}, (∀ i, i < n → f i = g i) → sm f n = sm g n
  | 0, _ => rfl
  | n + 1, h => by
    unfold sm
    rw [sm_congr (fun i hi => h i (by omega)), h n (by omega)]
theorem sm_le {f : Nat → Nat} {b : Nat} : ∀ {n : Nat}, (∀ i, i < n → f i ≤ b) → sm f n ≤ n * b
  | 0, _ => by simp [sm]
  | n + 1, h => by
    have h1 := sm_le (f := f) (b := b) (n := n) (fun i hi => h i (by omega))
    have h2 := h n (by omega)
    unfold sm
    rw [Nat.succ_mul]
    omega
/-- the first place below n with p, or n -/
def fst (p : Nat → Bool) : Nat → Nat → Nat
  | 0, i => i
  | n + 1, i => if p i then i else fst p n (i + 1)

theorem FU_gt {n : Nat} (h : n ≤ 5000) : n < FU := Nat.lt_of_le_of_lt h (by decide)
theorem up10 {τ : Type} {B : (Int32 → Option τ) → Int32 → Option τ} (Q : Option τ → Prop) (N : Nat) (hN : N ≤ 5000) (J : Nat → Prop) (h0 : J 0) (hs : ∀ sf i, i < N → J i → (J (i + 1) ∧ B sf (nI i) = sf (nI (i + 1))) ∨ Q (B sf (nI i))) (he : ∀ sf, J N → Q (B sf (nI N))) : Q (lz10 B FU (nI 0)) := by
  refine lz10_m Q (fun b => ∃ i, i ≤ N ∧ b = nI i ∧ J i) (fun b => N - ix b) ?_ FU _ ⟨0, Nat.zero_le _, rfl, h0⟩ (FU_gt (by omega))
  rintro sf b ⟨i, hi, rfl, hJ⟩
  by_cases h : i = N
  · subst h
    exact Or.inr (he sf hJ)
  · rcases hs sf i (by omega) hJ with ⟨h1, h2⟩ | h1
    · exact Or.inl ⟨nI (i + 1), ⟨i + 1, by omega, rfl, h1⟩, by rw [ix_n (by omega), ix_n (by omega)]; omega, h2⟩
    · exact Or.inr h1
theorem up20 {τ : Type} {B : (Int32 → Int32 → Option τ) → Int32 → Int32 → Option τ} (Q : Option τ → Prop) (N : Nat) (hN : N ≤ 5000) (J : Nat → Int32 → Prop) {a : Int32} (h0 : J 0 a) (hs : ∀ sf i a, i < N → J i a → (∃ a', J (i + 1) a' ∧ B sf a (nI i) = sf a' (nI (i + 1))) ∨ Q (B sf a (nI i))) (he : ∀ sf a, J N a → Q (B sf a (nI N))) : Q (lz20 B FU a (nI 0)) := by
  refine lz20_m Q (fun a b => ∃ i, i ≤ N ∧ b = nI i ∧ J i a) (fun _ b => N - ix b) ?_ FU _ _ ⟨0, Nat.zero_le _, rfl, h0⟩ (FU_gt (by omega))
  rintro sf a b ⟨i, hi, rfl, hJ⟩
  by_cases h : i = N
  · subst h
    exact Or.inr (he sf a hJ)
  · rcases hs sf i a (by omega) hJ with ⟨a', h1, h2⟩ | h1
    · exact Or.inl ⟨a', nI (i + 1), ⟨i + 1, by omega, rfl, h1⟩, by rw [ix_n (by omega), ix_n (by omega)]; omega, h2⟩
    · exact Or.inr h1
/-- a loop that sums up: the value behind i steps is g i -/
theorem ac20 {τ : Type} {B : (Int32 → Int32 → Option τ) → Int32 → Int32 → Option τ} {r : Option τ} (N : Nat) (hN : N ≤ 5000) (g : Nat → Int32) (hs : ∀ sf i, i < N → B sf (g i) (nI i) = sf (g (i + 1)) (nI (i + 1))) (he : ∀ sf, B sf (g N) (nI N) = r) : lz20 B FU (g 0) (nI 0) = r := by
  refine up20 (fun z => z = r) N hN (fun i a => a = g i) rfl ?_ ?_
  · rintro sf i a hi rfl
    exact Or.inl ⟨_, rfl, hs sf i hi⟩
  · rintro sf a rfl
    exact he sf
theorem up11 {τ : Type} {B : (Int32 → Mem → Option τ) → Int32 → Mem → Option τ} (Q : Option τ → Prop) (N : Nat) (hN : N ≤ 5000) (J : Nat → Mem → Prop) {m : Mem} (h0 : J 0 m) (hs : ∀ sf i m, i < N → J i m → (∃ m', J (i + 1) m' ∧ B sf (nI i) m = sf (nI (i + 1)) m') ∨ Q (B sf (nI i) m)) (he : ∀ sf m, J N m → Q (B sf (nI N) m)) : Q (lz11 B FU (nI 0) m) := by
  refine lz11_m Q (fun b m => ∃ i, i ≤ N ∧ b = nI i ∧ J i m) (fun b _ => N - ix b) ?_ FU _ _ ⟨0, Nat.zero_le _, rfl, h0⟩ (FU_gt (by omega))
  rintro sf b m ⟨i, hi, rfl, hJ⟩
  by_cases h : i = N
  · subst h
    exact Or.inr (he sf m hJ)
  · rcases hs sf i m (by omega) hJ with ⟨m', h1, h2⟩ | h1
    · exact Or.inl ⟨nI (i + 1), m', ⟨i + 1, by omega, rfl, h1⟩, by rw [ix_n (by omega), ix_n (by omega)]; omega, h2⟩
    · exact Or.inr h1
theorem up21 {τ : Type} {B : (Int32 → Int32 → Mem → Option τ) → Int32 → Int32 → Mem → Option τ} (Q : Option τ → Prop) (N : Nat) (hN : N ≤ 5000) (J : Nat → Int32 → Mem → Prop) {a : Int32} {m : Mem} (h0 : J 0 a m) (hs : ∀ sf i a m, i < N → J i a m → (∃ a' m', J (i + 1) a' m' ∧ B sf a (nI i) m = sf a' (nI (i + 1)) m') ∨ Q (B sf a (nI i) m)) (he : ∀ sf a m, J N a m → Q (B sf a (nI N) m)) : Q (lz21 B FU a (nI 0) m) := by
  refine lz21_m Q (fun a b m => ∃ i, i ≤ N ∧ b = nI i ∧ J i a m) (fun _ b _ => N - ix b) ?_ FU _ _ _ ⟨0, Nat.zero_le _, rfl, h0⟩ (FU_gt (by omega))
  rintro sf a b m ⟨i, hi, rfl, hJ⟩
  by_cases h : i = N
  · subst h
    exact Or.inr (he sf a m hJ)
  · rcases hs sf i a m (by omega) hJ with ⟨a', m', h1, h2⟩ | h1
    · exact Or.inl ⟨a', nI (i + 1), m', ⟨i + 1, by omega, rfl, h1⟩, by rw [ix_n (by omega), ix_n (by omega)]; omega, h2⟩
    · exact Or.inr h1
theorem if_ge {α : Type} {a b : Nat} (ha : a < 2 ^ 31) (hb : b < 2 ^ 31) (h : a ≤ b) (x y : α) : (if nI a ≤ nI b then x else y) = x := if_pos ((nI_leI ha hb).mpr h)
theorem if_lt {α : Type} {a b : Nat} (ha : a < 2 ^ 31) (hb : b < 2 ^ 31) (h : b < a) (x y : α) : (if nI a ≤ nI b then x else y) = y := if_neg (fun z => Nat.not_le.mpr h ((nI_leI ha hb).mp z))
theorem if_le {α : Type} {a b : Nat} (ha : a < 2 ^ 31) (hb : b < 2 ^ 31) (x y : α) : (if nI a ≤ nI b then x else y) = if a ≤ b then x else y := by
  by_cases h : a ≤ b
  · rw [if_ge ha hb h, if_pos h]
  · rw [if_lt ha hb (by omega), if_neg h]
theorem if_ll {α : Type} {a b : Nat} (ha : a < 2 ^ 31) (hb : b < 2 ^ 31) (x y : α) : (if nI a < nI b then x else y) = if a < b then x else y := by
  by_cases h : a < b
  · rw [if_pos ((nI_ltI ha hb).mpr h), if_pos h]
  · rw [if_neg (fun z => h ((nI_ltI ha hb).mp z)), if_neg h]
theorem if_ee {α : Type} {a b : Nat} (ha : a < 2 ^ 31) (hb : b < 2 ^ 31) (x y : α) : (if nI a = nI b then x else y) = if a = b then x else y := by
  by_cases h : a = b
  · rw [if_pos (by rw [h]), if_pos h]
  · rw [if_neg (fun z => h ((nI_eq ha hb).mp z)), if_neg h]
theorem b2i {p : Prop} [Decidable p] : (if p then (1 : Int32) else 0) = nI (if p then 1 else 0) := by
  by_cases h : p
  · rw [if_pos h, if_pos h]; rfl
  · rw [if_neg h, if_neg h]; rfl
theorem cnt_s (p : Nat → Bool) (n : Nat) : cnt p (n + 1) = cnt p n + (if p n then 1 else 0) := rfl
theorem sm_s (f : Nat → Nat) (n : Nat) : sm f (n + 1) = sm f n + f n := rfl
theorem fst_le (p : Nat → Bool) : ∀ n i, fst p n i ≤ i + n
  | 0, i => Nat.le_refl _
  | n + 1, i => by
    unfold fst
    split
    · omega
    · have := fst_le p n (i + 1)
      omega
theorem fst_spec (p : Nat → Bool) : ∀ n i, (∀ j, i ≤ j → j < fst p n i → p j = false) ∧ (fst p n i < i + n → p (fst p n i) = true)
  | 0, i => ⟨fun j h1 h2 => absurd h2 (by unfold fst; omega), fun h => absurd h (by unfold fst; omega)⟩
  | n + 1, i => by
    unfold fst
    by_cases h : p i
    · rw [if_pos h]
      exact ⟨fun j h1 h2 => absurd h2 (by omega), fun _ => h⟩
    · rw [if_neg h]
      obtain ⟨h1, h2⟩ := fst_spec p n (i + 1)
      refine ⟨fun j h3 h4 => ?_, fun h3 => h2 (by omega)⟩
      by_cases hj : j = i
      · subst hj; simpa using h
      · exact h1 j (by omega) h4
/-- the first place is what has nothing ahead of it -/
theorem fst_eq {p : Nat → Bool} {n j : Nat} (hj : j < n) (h1 : ∀ i, i < j → p i = false) (h2 : p j = true) : fst p n 0 = j := by
  obtain ⟨a, b⟩ := fst_spec p n 0
  have c := fst_le p n 0
  rcases Nat.lt_trichotomy (fst p n 0) j with h | h | h
  · have := h1 _ h
    rw [b (by omega)] at this
    cases this
  · exact h
  · have := a j (Nat.zero_le _) h
    rw [h2] at this
    cases this
theorem fst_none {p : Nat → Bool} {n : Nat} (h1 : ∀ i, i < n → p i = false) : fst p n 0 = n := by
  obtain ⟨a, b⟩ := fst_spec p n 0
  have c := fst_le p n 0
  by_cases h : fst p n 0 = n
  · exact h
  · have := h1 _ (show fst p n 0 < n by omega)
    rw [b (by omega)] at this
    cases this

theorem if_leR {α : Type} (v : Int32) {a : Nat} (b : Nat) (hv : v = nI b) (ha : a < 2 ^ 31) (hb : b < 2 ^ 31) (x y : α) : (if nI a ≤ v then x else y) = if a ≤ b then x else y := by subst hv; exact if_le ha hb x y
theorem if_leL {α : Type} (v : Int32) {b : Nat} (a : Nat) (hv : v = nI a) (ha : a < 2 ^ 31) (hb : b < 2 ^ 31) (x y : α) : (if v ≤ nI b then x else y) = if a ≤ b then x else y := by subst hv; exact if_le ha hb x y
theorem if_llR {α : Type} (v : Int32) {a : Nat} (b : Nat) (hv : v = nI b) (ha : a < 2 ^ 31) (hb : b < 2 ^ 31) (x y : α) : (if nI a < v then x else y) = if a < b then x else y := by subst hv; exact if_ll ha hb x y
theorem if_llL {α : Type} (v : Int32) {b : Nat} (a : Nat) (hv : v = nI a) (ha : a < 2 ^ 31) (hb : b < 2 ^ 31) (x y : α) : (if v < nI b then x else y) = if a < b then x else y := by subst hv; exact if_ll ha hb x y
theorem if_eeR {α : Type} (v : Int32) {a : Nat} (b : Nat) (hv : v = nI b) (ha : a < 2 ^ 31) (hb : b < 2 ^ 31) (x y : α) : (if nI a = v then x else y) = if a = b then x else y := by subst hv; exact if_ee ha hb x y
theorem nI_z {a : Nat} : nI a + 0 = nI a := nI_add a 0
