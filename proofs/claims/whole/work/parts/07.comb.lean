def FU : Nat := 6000
section SimComb
variable {τ : Type} {X : Sc} {cc : ByteArray} {nL : Nat} {ret : Option FieldType} {own : String} {R : Room} {ro : τ → Int32} {mo : τ → Mem} {pc : Nat} {lo : List (Nat × PV)} {st : List PV} {μ : Mem} {ex a b : Option τ}
theorem sim_eq (h : a = b) (k : Sim X cc nL ret own R ro mo pc lo st μ b) : Sim X cc nL ret own R ro mo pc lo st μ a := h ▸ k
theorem lt_ite {α β : Type} (c : Prop) [Decidable c] (x y : α) (K : α → β) : lt (if c then x else y) K = if c then lt x K else lt y K := by
  by_cases h : c
  · rw [if_pos h, if_pos h]
  · rw [if_neg h, if_neg h]
def lz01 (B : (Mem → Option τ) → Mem → Option τ) : Nat → Mem → Option τ
  | 0, _ => none
  | n + 1, m9 => B (lz01 B n) m9
theorem sim_lz01 {B : (Mem → Option τ) → Mem → Option τ} (LO : List (Nat × PV)) (h : ∀ sf : Mem → Option τ, (∀ (m9 : Mem), Sim X cc nL ret own R ro mo pc LO st m9 (sf m9)) → ∀ (m9 : Mem), Sim X cc nL ret own R ro mo pc LO st m9 (B sf m9)) : ∀ (n : Nat) (m9 : Mem), Sim X cc nL ret own R ro mo pc LO st m9 (lz01 B n m9)
  | 0, _ => sim_none
  | n + 1, m9 => h (lz01 B n) (fun m9 => sim_lz01 LO h n m9) m9
def lz10 (B : (Int32 → Option τ) → Int32 → Option τ) : Nat → Int32 → Option τ
  | 0, _ => none
  | n + 1, x0 => B (lz10 B n) x0
theorem sim_lz10 {B : (Int32 → Option τ) → Int32 → Option τ} (LO : Int32 → List (Nat × PV)) (h : ∀ sf : Int32 → Option τ, (∀ (x0 : Int32) , Sim X cc nL ret own R ro mo pc (LO x0) st μ (sf x0)) → ∀ (x0 : Int32) , Sim X cc nL ret own R ro mo pc (LO x0) st μ (B sf x0)) : ∀ (n : Nat) (x0 : Int32) , Sim X cc nL ret own R ro mo pc (LO x0) st μ (lz10 B n x0)
  | 0, _ => sim_none
  | n + 1, x0 => h (lz10 B n) (fun x0 => sim_lz10 LO h n x0) x0
def lz11 (B : (Int32 → Mem → Option τ) → Int32 → Mem → Option τ) : Nat → Int32 → Mem → Option τ
  | 0, _, _ => none
  | n + 1, x0, m9 => B (lz11 B n) x0 m9
theorem sim_lz11 {B : (Int32 → Mem → Option τ) → Int32 → Mem → Option τ} (LO : Int32 → List (Nat × PV)) (h : ∀ sf : Int32 → Mem → Option τ, (∀ (x0 : Int32) (m9 : Mem), Sim X cc nL ret own R ro mo pc (LO x0) st m9 (sf x0 m9)) → ∀ (x0 : Int32) (m9 : Mem), Sim X cc nL ret own R ro mo pc (LO x0) st m9 (B sf x0 m9)) : ∀ (n : Nat) (x0 : Int32) (m9 : Mem), Sim X cc nL ret own R ro mo pc (LO x0) st m9 (lz11 B n x0 m9)
  | 0, _, _ => sim_none
  | n + 1, x0, m9 => h (lz11 B n) (fun x0 m9 => sim_lz11 LO h n x0 m9) x0 m9
def lz20 (B : (Int32 → Int32 → Option τ) → Int32 → Int32 → Option τ) : Nat → Int32 → Int32 → Option τ
  | 0, _, _ => none
  | n + 1, x0, x1 => B (lz20 B n) x0 x1
theorem sim_lz20 {B : (Int32 → Int32 → Option τ) → Int32 → Int32 → Option τ} (LO : Int32 → Int32 → List (Nat × PV)) (h : ∀ sf : Int32 → Int32 → Option τ, (∀ (x0 x1 : Int32) , Sim X cc nL ret own R ro mo pc (LO x0 x1) st μ (sf x0 x1)) → ∀ (x0 x1 : Int32) , Sim X cc nL ret own R ro mo pc (LO x0 x1) st μ (B sf x0 x1)) : ∀ (n : Nat) (x0 x1 : Int32) , Sim X cc nL ret own R ro mo pc (LO x0 x1) st μ (lz20 B n x0 x1)
  | 0, _, _ => sim_none
  | n + 1, x0, x1 => h (lz20 B n) (fun x0 x1 => sim_lz20 LO h n x0 x1) x0 x1
def lz21 (B : (Int32 → Int32 → Mem → Option τ) → Int32 → Int32 → Mem → Option τ) : Nat → Int32 → Int32 → Mem → Option τ
  | 0, _, _, _ => none
  | n + 1, x0, x1, m9 => B (lz21 B n) x0 x1 m9
theorem sim_lz21 {B : (Int32 → Int32 → Mem → Option τ) → Int32 → Int32 → Mem → Option τ} (LO : Int32 → Int32 → List (Nat × PV)) (h : ∀ sf : Int32 → Int32 → Mem → Option τ, (∀ (x0 x1 : Int32) (m9 : Mem), Sim X cc nL ret own R ro mo pc (LO x0 x1) st m9 (sf x0 x1 m9)) → ∀ (x0 x1 : Int32) (m9 : Mem), Sim X cc nL ret own R ro mo pc (LO x0 x1) st m9 (B sf x0 x1 m9)) : ∀ (n : Nat) (x0 x1 : Int32) (m9 : Mem), Sim X cc nL ret own R ro mo pc (LO x0 x1) st m9 (lz21 B n x0 x1 m9)
  | 0, _, _, _ => sim_none
  | n + 1, x0, x1, m9 => h (lz21 B n) (fun x0 x1 m9 => sim_lz21 LO h n x0 x1 m9) x0 x1 m9
def lz30 (B : (Int32 → Int32 → Int32 → Option τ) → Int32 → Int32 → Int32 → Option τ) : Nat → Int32 → Int32 → Int32 → Option τ
  | 0, _, _, _ => none
  | n + 1, x0, x1, x2 => B (lz30 B n) x0 x1 x2
theorem sim_lz30 {B : (Int32 → Int32 → Int32 → Option τ) → Int32 → Int32 → Int32 → Option τ} (LO : Int32 → Int32 → Int32 → List (Nat × PV)) (h : ∀ sf : Int32 → Int32 → Int32 → Option τ, (∀ (x0 x1 x2 : Int32) , Sim X cc nL ret own R ro mo pc (LO x0 x1 x2) st μ (sf x0 x1 x2)) → ∀ (x0 x1 x2 : Int32) , Sim X cc nL ret own R ro mo pc (LO x0 x1 x2) st μ (B sf x0 x1 x2)) : ∀ (n : Nat) (x0 x1 x2 : Int32) , Sim X cc nL ret own R ro mo pc (LO x0 x1 x2) st μ (lz30 B n x0 x1 x2)
  | 0, _, _, _ => sim_none
  | n + 1, x0, x1, x2 => h (lz30 B n) (fun x0 x1 x2 => sim_lz30 LO h n x0 x1 x2) x0 x1 x2
def lz31 (B : (Int32 → Int32 → Int32 → Mem → Option τ) → Int32 → Int32 → Int32 → Mem → Option τ) : Nat → Int32 → Int32 → Int32 → Mem → Option τ
  | 0, _, _, _, _ => none
  | n + 1, x0, x1, x2, m9 => B (lz31 B n) x0 x1 x2 m9
theorem sim_lz31 {B : (Int32 → Int32 → Int32 → Mem → Option τ) → Int32 → Int32 → Int32 → Mem → Option τ} (LO : Int32 → Int32 → Int32 → List (Nat × PV)) (h : ∀ sf : Int32 → Int32 → Int32 → Mem → Option τ, (∀ (x0 x1 x2 : Int32) (m9 : Mem), Sim X cc nL ret own R ro mo pc (LO x0 x1 x2) st m9 (sf x0 x1 x2 m9)) → ∀ (x0 x1 x2 : Int32) (m9 : Mem), Sim X cc nL ret own R ro mo pc (LO x0 x1 x2) st m9 (B sf x0 x1 x2 m9)) : ∀ (n : Nat) (x0 x1 x2 : Int32) (m9 : Mem), Sim X cc nL ret own R ro mo pc (LO x0 x1 x2) st m9 (lz31 B n x0 x1 x2 m9)
  | 0, _, _, _, _ => sim_none
  | n + 1, x0, x1, x2, m9 => h (lz31 B n) (fun x0 x1 x2 m9 => sim_lz31 LO h n x0 x1 x2 m9) x0 x1 x2 m9
def lz40 (B : (Int32 → Int32 → Int32 → Int32 → Option τ) → Int32 → Int32 → Int32 → Int32 → Option τ) : Nat → Int32 → Int32 → Int32 → Int32 → Option τ
  | 0, _, _, _, _ => none
  | n + 1, x0, x1, x2, x3 => B (lz40 B n) x0 x1 x2 x3
theorem sim_lz40 {B : (Int32 → Int32 → Int32 → Int32 → Option τ) → Int32 → Int32 → Int32 → Int32 → Option τ} (LO : Int32 → Int32 → Int32 → Int32 → List (Nat × PV)) (h : ∀ sf : Int32 → Int32 → Int32 → Int32 → Option τ, (∀ (x0 x1 x2 x3 : Int32) , Sim X cc nL ret own R ro mo pc (LO x0 x1 x2 x3) st μ (sf x0 x1 x2 x3)) → ∀ (x0 x1 x2 x3 : Int32) , Sim X cc nL ret own R ro mo pc (LO x0 x1 x2 x3) st μ (B sf x0 x1 x2 x3)) : ∀ (n : Nat) (x0 x1 x2 x3 : Int32) , Sim X cc nL ret own R ro mo pc (LO x0 x1 x2 x3) st μ (lz40 B n x0 x1 x2 x3)
  | 0, _, _, _, _ => sim_none
  | n + 1, x0, x1, x2, x3 => h (lz40 B n) (fun x0 x1 x2 x3 => sim_lz40 LO h n x0 x1 x2 x3) x0 x1 x2 x3
def lz41 (B : (Int32 → Int32 → Int32 → Int32 → Mem → Option τ) → Int32 → Int32 → Int32 → Int32 → Mem → Option τ) : Nat → Int32 → Int32 → Int32 → Int32 → Mem → Option τ
  | 0, _, _, _, _, _ => none
  | n + 1, x0, x1, x2, x3, m9 => B (lz41 B n) x0 x1 x2 x3 m9
theorem sim_lz41 {B : (Int32 → Int32 → Int32 → Int32 → Mem → Option τ) → Int32 → Int32 → Int32 → Int32 → Mem → Option τ} (LO : Int32 → Int32 → Int32 → Int32 → List (Nat × PV)) (h : ∀ sf : Int32 → Int32 → Int32 → Int32 → Mem → Option τ, (∀ (x0 x1 x2 x3 : Int32) (m9 : Mem), Sim X cc nL ret own R ro mo pc (LO x0 x1 x2 x3) st m9 (sf x0 x1 x2 x3 m9)) → ∀ (x0 x1 x2 x3 : Int32) (m9 : Mem), Sim X cc nL ret own R ro mo pc (LO x0 x1 x2 x3) st m9 (B sf x0 x1 x2 x3 m9)) : ∀ (n : Nat) (x0 x1 x2 x3 : Int32) (m9 : Mem), Sim X cc nL ret own R ro mo pc (LO x0 x1 x2 x3) st m9 (lz41 B n x0 x1 x2 x3 m9)
  | 0, _, _, _, _, _ => sim_none
  | n + 1, x0, x1, x2, x3, m9 => h (lz41 B n) (fun x0 x1 x2 x3 m9 => sim_lz41 LO h n x0 x1 x2 x3 m9) x0 x1 x2 x3 m9
def lz50 (B : (Int32 → Int32 → Int32 → Int32 → Int32 → Option τ) → Int32 → Int32 → Int32 → Int32 → Int32 → Option τ) : Nat → Int32 → Int32 → Int32 → Int32 → Int32 → Option τ
  | 0, _, _, _, _, _ => none
  | n + 1, x0, x1, x2, x3, x4 => B (lz50 B n) x0 x1 x2 x3 x4
theorem sim_lz50 {B : (Int32 → Int32 → Int32 → Int32 → Int32 → Option τ) → Int32 → Int32 → Int32 → Int32 → Int32 → Option τ} (LO : Int32 → Int32 → Int32 → Int32 → Int32 → List (Nat × PV)) (h : ∀ sf : Int32 → Int32 → Int32 → Int32 → Int32 → Option τ, (∀ (x0 x1 x2 x3 x4 : Int32) , Sim X cc nL ret own R ro mo pc (LO x0 x1 x2 x3 x4) st μ (sf x0 x1 x2 x3 x4)) → ∀ (x0 x1 x2 x3 x4 : Int32) , Sim X cc nL ret own R ro mo pc (LO x0 x1 x2 x3 x4) st μ (B sf x0 x1 x2 x3 x4)) : ∀ (n : Nat) (x0 x1 x2 x3 x4 : Int32) , Sim X cc nL ret own R ro mo pc (LO x0 x1 x2 x3 x4) st μ (lz50 B n x0 x1 x2 x3 x4)
  | 0, _, _, _, _, _ => sim_none
  | n + 1, x0, x1, x2, x3, x4 => h (lz50 B n) (fun x0 x1 x2 x3 x4 => sim_lz50 LO h n x0 x1 x2 x3 x4) x0 x1 x2 x3 x4
def lz51 (B : (Int32 → Int32 → Int32 → Int32 → Int32 → Mem → Option τ) → Int32 → Int32 → Int32 → Int32 → Int32 → Mem → Option τ) : Nat → Int32 → Int32 → Int32 → Int32 → Int32 → Mem → Option τ
  | 0, _, _, _, _, _, _ => none
  | n + 1, x0, x1, x2, x3, x4, m9 => B (lz51 B n) x0 x1 x2 x3 x4 m9
theorem sim_lz51 {B : (Int32 → Int32 → Int32 → Int32 → Int32 → Mem → Option τ) → Int32 → Int32 → Int32 → Int32 → Int32 → Mem → Option τ} (LO : Int32 → Int32 → Int32 → Int32 → Int32 → List (Nat × PV)) (h : ∀ sf : Int32 → Int32 → Int32 → Int32 → Int32 → Mem → Option τ, (∀ (x0 x1 x2 x3 x4 : Int32) (m9 : Mem), Sim X cc nL ret own R ro mo pc (LO x0 x1 x2 x3 x4) st m9 (sf x0 x1 x2 x3 x4 m9)) → ∀ (x0 x1 x2 x3 x4 : Int32) (m9 : Mem), Sim X cc nL ret own R ro mo pc (LO x0 x1 x2 x3 x4) st m9 (B sf x0 x1 x2 x3 x4 m9)) : ∀ (n : Nat) (x0 x1 x2 x3 x4 : Int32) (m9 : Mem), Sim X cc nL ret own R ro mo pc (LO x0 x1 x2 x3 x4) st m9 (lz51 B n x0 x1 x2 x3 x4 m9)
  | 0, _, _, _, _, _, _ => sim_none
  | n + 1, x0, x1, x2, x3, x4, m9 => h (lz51 B n) (fun x0 x1 x2 x3 x4 m9 => sim_lz51 LO h n x0 x1 x2 x3 x4 m9) x0 x1 x2 x3 x4 m9
def lz60 (B : (Int32 → Int32 → Int32 → Int32 → Int32 → Int32 → Option τ) → Int32 → Int32 → Int32 → Int32 → Int32 → Int32 → Option τ) : Nat → Int32 → Int32 → Int32 → Int32 → Int32 → Int32 → Option τ
  | 0, _, _, _, _, _, _ => none
  | n + 1, x0, x1, x2, x3, x4, x5 => B (lz60 B n) x0 x1 x2 x3 x4 x5
theorem sim_lz60 {B : (Int32 → Int32 → Int32 → Int32 → Int32 → Int32 → Option τ) → Int32 → Int32 → Int32 → Int32 → Int32 → Int32 → Option τ} (LO : Int32 → Int32 → Int32 → Int32 → Int32 → Int32 → List (Nat × PV)) (h : ∀ sf : Int32 → Int32 → Int32 → Int32 → Int32 → Int32 → Option τ, (∀ (x0 x1 x2 x3 x4 x5 : Int32) , Sim X cc nL ret own R ro mo pc (LO x0 x1 x2 x3 x4 x5) st μ (sf x0 x1 x2 x3 x4 x5)) → ∀ (x0 x1 x2 x3 x4 x5 : Int32) , Sim X cc nL ret own R ro mo pc (LO x0 x1 x2 x3 x4 x5) st μ (B sf x0 x1 x2 x3 x4 x5)) : ∀ (n : Nat) (x0 x1 x2 x3 x4 x5 : Int32) , Sim X cc nL ret own R ro mo pc (LO x0 x1 x2 x3 x4 x5) st μ (lz60 B n x0 x1 x2 x3 x4 x5)
  | 0, _, _, _, _, _, _ => sim_none
  | n + 1, x0, x1, x2, x3, x4, x5 => h (lz60 B n) (fun x0 x1 x2 x3 x4 x5 => sim_lz60 LO h n x0 x1 x2 x3 x4 x5) x0 x1 x2 x3 x4 x5
def lz61 (B : (Int32 → Int32 → Int32 → Int32 → Int32 → Int32 → Mem → Option τ) → Int32 → Int32 → Int32 → Int32 → Int32 → Int32 → Mem → Option τ) : Nat → Int32 → Int32 → Int32 → Int32 → Int32 → Int32 → Mem → Option τ
  | 0, _, _, _, _, _, _, _ => none
  | n + 1, x0, x1, x2, x3, x4, x5, m9 => B (lz61 B n) x0 x1 x2 x3 x4 x5 m9
theorem sim_lz61 {B : (Int32 → Int32 → Int32 → Int32 → Int32 → Int32 → Mem → Option τ) → Int32 → Int32 → Int32 → Int32 → Int32 → Int32 → Mem → Option τ} (LO : Int32 → Int32 → Int32 → Int32 → Int32 → Int32 → List (Nat × PV)) (h : ∀ sf : Int32 → Int32 → Int32 → Int32 → Int32 → Int32 → Mem → Option τ, (∀ (x0 x1 x2 x3 x4 x5 : Int32) (m9 : Mem), Sim X cc nL ret own R ro mo pc (LO x0 x1 x2 x3 x4 x5) st m9 (sf x0 x1 x2 x3 x4 x5 m9)) → ∀ (x0 x1 x2 x3 x4 x5 : Int32) (m9 : Mem), Sim X cc nL ret own R ro mo pc (LO x0 x1 x2 x3 x4 x5) st m9 (B sf x0 x1 x2 x3 x4 x5 m9)) : ∀ (n : Nat) (x0 x1 x2 x3 x4 x5 : Int32) (m9 : Mem), Sim X cc nL ret own R ro mo pc (LO x0 x1 x2 x3 x4 x5) st m9 (lz61 B n x0 x1 x2 x3 x4 x5 m9)
  | 0, _, _, _, _, _, _, _ => sim_none
  | n + 1, x0, x1, x2, x3, x4, x5, m9 => h (lz61 B n) (fun x0 x1 x2 x3 x4 x5 m9 => sim_lz61 LO h n x0 x1 x2 x3 x4 x5 m9) x0 x1 x2 x3 x4 x5 m9
def lz70 (B : (Int32 → Int32 → Int32 → Int32 → Int32 → Int32 → Int32 → Option τ) → Int32 → Int32 → Int32 → Int32 → Int32 → Int32 → Int32 → Option τ) : Nat → Int32 → Int32 → Int32 → Int32 → Int32 → Int32 → Int32 → Option τ
  | 0, _, _, _, _, _, _, _ => none
  | n + 1, x0, x1, x2, x3, x4, x5, x6 => B (lz70 B n) x0 x1 x2 x3 x4 x5 x6
theorem sim_lz70 {B : (Int32 → Int32 → Int32 → Int32 → Int32 → Int32 → Int32 → Option τ) → Int32 → Int32 → Int32 → Int32 → Int32 → Int32 → Int32 → Option τ} (LO : Int32 → Int32 → Int32 → Int32 → Int32 → Int32 → Int32 → List (Nat × PV)) (h : ∀ sf : Int32 → Int32 → Int32 → Int32 → Int32 → Int32 → Int32 → Option τ, (∀ (x0 x1 x2 x3 x4 x5 x6 : Int32) , Sim X cc nL ret own R ro mo pc (LO x0 x1 x2 x3 x4 x5 x6) st μ (sf x0 x1 x2 x3 x4 x5 x6)) → ∀ (x0 x1 x2 x3 x4 x5 x6 : Int32) , Sim X cc nL ret own R ro mo pc (LO x0 x1 x2 x3 x4 x5 x6) st μ (B sf x0 x1 x2 x3 x4 x5 x6)) : ∀ (n : Nat) (x0 x1 x2 x3 x4 x5 x6 : Int32) , Sim X cc nL ret own R ro mo pc (LO x0 x1 x2 x3 x4 x5 x6) st μ (lz70 B n x0 x1 x2 x3 x4 x5 x6)
  | 0, _, _, _, _, _, _, _ => sim_none
  | n + 1, x0, x1, x2, x3, x4, x5, x6 => h (lz70 B n) (fun x0 x1 x2 x3 x4 x5 x6 => sim_lz70 LO h n x0 x1 x2 x3 x4 x5 x6) x0 x1 x2 x3 x4 x5 x6
def lz71 (B : (Int32 → Int32 → Int32 → Int32 → Int32 → Int32 → Int32 → Mem → Option τ) → Int32 → Int32 → Int32 → Int32 → Int32 → Int32 → Int32 → Mem → Option τ) : Nat → Int32 → Int32 → Int32 → Int32 → Int32 → Int32 → Int32 → Mem → Option τ
  | 0, _, _, _, _, _, _, _, _ => none
  | n + 1, x0, x1, x2, x3, x4, x5, x6, m9 => B (lz71 B n) x0 x1 x2 x3 x4 x5 x6 m9
theorem sim_lz71 {B : (Int32 → Int32 → Int32 → Int32 → Int32 → Int32 → Int32 → Mem → Option τ) → Int32 → Int32 → Int32 → Int32 → Int32 → Int32 → Int32 → Mem → Option τ} (LO : Int32 → Int32 → Int32 → Int32 → Int32 → Int32 → Int32 → List (Nat × PV)) (h : ∀ sf : Int32 → Int32 → Int32 → Int32 → Int32 → Int32 → Int32 → Mem → Option τ, (∀ (x0 x1 x2 x3 x4 x5 x6 : Int32) (m9 : Mem), Sim X cc nL ret own R ro mo pc (LO x0 x1 x2 x3 x4 x5 x6) st m9 (sf x0 x1 x2 x3 x4 x5 x6 m9)) → ∀ (x0 x1 x2 x3 x4 x5 x6 : Int32) (m9 : Mem), Sim X cc nL ret own R ro mo pc (LO x0 x1 x2 x3 x4 x5 x6) st m9 (B sf x0 x1 x2 x3 x4 x5 x6 m9)) : ∀ (n : Nat) (x0 x1 x2 x3 x4 x5 x6 : Int32) (m9 : Mem), Sim X cc nL ret own R ro mo pc (LO x0 x1 x2 x3 x4 x5 x6) st m9 (lz71 B n x0 x1 x2 x3 x4 x5 x6 m9)
  | 0, _, _, _, _, _, _, _, _ => sim_none
  | n + 1, x0, x1, x2, x3, x4, x5, x6, m9 => h (lz71 B n) (fun x0 x1 x2 x3 x4 x5 x6 m9 => sim_lz71 LO h n x0 x1 x2 x3 x4 x5 x6 m9) x0 x1 x2 x3 x4 x5 x6 m9
theorem sim_jv {V : Int32} {K : Int32 → Option τ} (pcj : Nat) (LO : List (Nat × PV)) (ST : List PV) (h : ∀ x, Sim X cc nL ret own R ro mo pcj LO (pI x :: ST) μ (K x)) (hb : (∀ x, Sim X cc nL ret own R ro mo pcj LO (pI x :: ST) μ (lt x K)) → Sim X cc nL ret own R ro mo pc lo st μ (lt V K)) : Sim X cc nL ret own R ro mo pc lo st μ (lt V K) := hb h
theorem sim_mabs {idx : Nat} {x : Int32} (d : decode cc pc = .ok (.invokestatic idx, 3)) (hl : Cond.methodLink own idx Lib.Math.abs.name ∈ lw_ok) (hw : Cond.static Lib.Math.abs.name ∈ lw_ok ∧ Cond.initialized "java/lang/Math" ∈ lw_ok ∧ Cond.code Lib.Math.abs.name Lib.Math.abs.code 1 (some .int) ∈ lw_ok) (hfr : 1 ≤ R.frames) (hlo : (st.map pcat).sum + 13 ≤ R.locals) (k : Sim X cc nL ret own R ro mo (pc + 3) lo (pI (if 0 ≤ x then x else 0 - x) :: st) μ ex) : Sim X cc nL ret own R ro mo pc lo (pI x :: st) μ ex := by
  intro t he G p l e s m args below meth cd A cells slots Q F hcs hR H locs ls o1 o2 hP hD hS hl'
  refine va_mabs (rest := st.map (emb G)) F.1 F.2.1 (F.2.2.1.trans hl'.1.symm) F.2.2.2.1 (F.2.2.2.2.1 _ hl) (F.2.2.2.2.1 _ hw.1) (F.2.2.2.2.1 _ hw.2.1) (F.2.2.2.2.1 _ hw.2.2) hfr ?_ hcs.1 hcs.2 d (k t he G p l e s m args below meth cd A cells slots Q F hcs hR H locs ls o1 (List.forall_mem_cons.mpr ⟨trivial, fun u hu => o2 u (List.mem_cons_of_mem _ hu)⟩) hP hD hS hl')
  rw [List.map_map, show (fun v => v.category) ∘ emb G = pcat from funext (emb_cat G)]
  exact hlo
theorem sim_mmax {idx : Nat} {x y : Int32} (d : decode cc pc = .ok (.invokestatic idx, 3)) (hl : Cond.methodLink own idx Lib.Math.max.name ∈ lw_ok) (hw : Cond.static Lib.Math.max.name ∈ lw_ok ∧ Cond.initialized "java/lang/Math" ∈ lw_ok ∧ Cond.code Lib.Math.max.name Lib.Math.max.code 2 (some .int) ∈ lw_ok) (hfr : 1 ≤ R.frames) (hlo : (st.map pcat).sum + 13 ≤ R.locals) (k : Sim X cc nL ret own R ro mo (pc + 3) lo (pI (if x < y then y else x) :: st) μ ex) : Sim X cc nL ret own R ro mo pc lo (pI y :: pI x :: st) μ ex := by
  intro t he G p l e s m args below meth cd A cells slots Q F hcs hR H locs ls o1 o2 hP hD hS hl'
  refine va_mmax (rest := st.map (emb G)) F.1 F.2.1 (F.2.2.1.trans hl'.1.symm) F.2.2.2.1 (F.2.2.2.2.1 _ hl) (F.2.2.2.2.1 _ hw.1) (F.2.2.2.2.1 _ hw.2.1) (F.2.2.2.2.1 _ hw.2.2) hfr ?_ hcs.1 hcs.2 d (k t he G p l e s m args below meth cd A cells slots Q F hcs hR H locs ls o1 (List.forall_mem_cons.mpr ⟨trivial, fun u hu => o2 u (List.mem_cons_of_mem _ (List.mem_cons_of_mem _ hu))⟩) hP hD hS hl')
  rw [List.map_map, show (fun v => v.category) ∘ emb G = pcat from funext (emb_cat G)]
  exact hlo
theorem sim_case {x v : Int32} (ht : Sim X cc nL ret own R ro mo pc lo (pI v :: st) μ a) (hf : ¬ x = v → Sim X cc nL ret own R ro mo pc lo (pI x :: st) μ b) : Sim X cc nL ret own R ro mo pc lo (pI x :: st) μ (if x = v then a else b) := by
  by_cases h : x = v
  · rw [if_pos h, h]; exact ht
  · rw [if_neg h]; exact hf h
theorem ne_lit {x v : Int32} {n : Int} (h : ¬ x = v) (hv : v.toInt = n) : ¬ x.toInt = n := fun e => h (Int32.toInt_inj.mp (by rw [e, hv]))
theorem sim_tab {dflt l9 h9 : Int} {offs : Array Int} {len : Nat} {x : Int32} {off : Int} {tgt : Nat} (d : decode cc pc = .ok (.tableswitch dflt l9 h9 offs, len)) (h1 : ¬ x.toInt < l9) (h2 : ¬ h9 < x.toInt) (ho : offs[(x.toInt - l9).toNat]? = some off) (ht : (pc : Int) + off = (tgt : Int)) (k : Sim X cc nL ret own R ro mo tgt lo st μ ex) : Sim X cc nL ret own R ro mo pc lo (pI x :: st) μ ex :=
  sim_pure k (fun h _ v hv => h v (List.mem_cons_of_mem _ hv)) (fun _ _ _ _ _ _ _ _ _ _ _ _ _ _ _ _ _ F _ _ w => lv_tableIn F.1 F.2.1 d h1 h2 ho ht w)
theorem sim_tabd {dflt l9 h9 : Int} {offs : Array Int} {len : Nat} {x : Int32} {tgt : Nat} (d : decode cc pc = .ok (.tableswitch dflt l9 h9 offs, len)) (h1 : x.toInt < l9 ∨ h9 < x.toInt) (ht : (pc : Int) + dflt = (tgt : Int)) (k : Sim X cc nL ret own R ro mo tgt lo st μ ex) : Sim X cc nL ret own R ro mo pc lo (pI x :: st) μ ex :=
  sim_pure k (fun h _ v hv => h v (List.mem_cons_of_mem _ hv)) (fun _ _ _ _ _ _ _ _ _ _ _ _ _ _ _ _ _ F _ _ w => lv_tableOut F.1 F.2.1 d h1 ht w)
theorem sim_look {dflt : Int} {ps : Array (Int × Int)} {len : Nat} {x : Int32} {off : Int} {tgt : Nat} (d : decode cc pc = .ok (.lookupswitch dflt ps, len)) (hp : (ps.toList.zip (ps.toList.drop 1)).all (fun (a, next) => a.1 < next.1) = true) (ho : Op.lookupswitch.offset ps.toList dflt x.toInt = off) (ht : (pc : Int) + off = (tgt : Int)) (k : Sim X cc nL ret own R ro mo tgt lo st μ ex) : Sim X cc nL ret own R ro mo pc lo (pI x :: st) μ ex :=
  sim_pure k (fun h _ v hv => h v (List.mem_cons_of_mem _ hv)) (fun _ _ _ _ _ _ _ _ _ _ _ _ _ _ _ _ _ F _ _ w => lv_lookup F.1 F.2.1 d hp ho ht w)
/-- System.arraycopy of ints -/
def cpk (sp dp n : Int32) (n0 n1 : Nat) : Bool := !(decide (sp < 0)) && (!(decide (dp < 0)) && (!(decide (n < 0)) && (decide (sp.toNatClampNeg + n.toNatClampNeg ≤ n0) && decide (dp.toNatClampNeg + n.toNatClampNeg ≤ n1))))
theorem sim_copy {c1 k1 j1 n1 c2 k2 j2 n2 idx : Nat} {sp dp n : Int32} {K : Mem → Option τ} (d : decode cc pc = .ok (.invokestatic idx, 3)) (hl : Cond.methodLink own idx arraycopyName ∈ lw_ok) (hw : Cond.native arraycopyName ∈ lw_ok ∧ Cond.static arraycopyName ∈ lw_ok ∧ Cond.initialized "java/lang/System" ∈ lw_ok) (h1 : arT c1 j1 = some (0, n1)) (h2 : arT c2 j2 = some (0, n2)) (hc1 : c1 < 6) (hc2 : c2 < 6) (hfr : 1 ≤ R.frames) (hlo : (st.map pcat).sum + (nativeFrameWords "java/lang/System" "arraycopy" 5 + 11) ≤ R.locals)
    (kk : ∀ μ', Sim X cc nL ret own R ro mo (pc + 3) lo st μ' (K μ')) : Sim X cc nL ret own R ro mo pc lo (pI n :: pI dp :: pR c2 k2 (j2 + 1) :: pI sp :: pR c1 k1 (j1 + 1) :: st) μ (gd (cpk sp dp n n1 n2) (lt (sr μ (c2, k2, j2 + 1) (va_cpy (μ (c1, k1, j1 + 1)) (μ (c2, k2, j2 + 1)) (ix sp) (ix dp) (ix n))) K)) := by
  refine sim_gd fun hi => ?_
  intro t he G p l e s m args below meth cd A cells slots Q F hcs hR H locs ls o1 o2 hP hD hS hl'
  unfold cpk at hi
  simp only [Bool.and_eq_true, Bool.not_eq_true', decide_eq_true_eq, decide_eq_false_iff_not] at hi
  obtain ⟨g1, g2, g3, g4, g5⟩ := hi
  have hid2 : (c2, k2, j2 + 1) ∈ ids := ids_of (o2 _ (List.mem_cons_of_mem _ (List.mem_cons_of_mem _ List.mem_cons_self))) hc2
  have hid1 : (c1, k1, j1 + 1) ∈ ids := ids_of (o2 _ (List.mem_cons_of_mem _ (List.mem_cons_of_mem _ (List.mem_cons_of_mem _ (List.mem_cons_of_mem _ List.mem_cons_self))))) hc1
  obtain ⟨q1, hq1, hw1⟩ := ws_at hid1
  obtain ⟨q2, hq2, hw2⟩ := ws_at hid2
  refine va_copyi (D := G.1) (ty := .int) (rest := st.map (emb G)) F.1 F.2.1 (F.2.2.1.trans hl'.1.symm) F.2.2.2.1 (F.2.2.2.2.1 _ hl) (F.2.2.2.2.1 _ hw.1) (F.2.2.2.2.1 _ hw.2.1) (F.2.2.2.2.1 _ hw.2.2) F.2.2.2.2.2.2.1 hP hD hS q1 q2 0 0 (by rw [hw1 G μ, cell_arr G _ h1 (by decide)]) (by rw [hw2 G μ, cell_arr G _ h2 (by decide)]) rfl rfl rfl g1 g2 g3 g4 g5 (fun _ _ => rfl) hfr ?_ d (fun H1 locs1 hP1 hD1 hS1 => ?_)
  · rw [List.map_map]
    have : (fun v => v.category) ∘ emb G = pcat := funext (emb_cat G)
    rw [this]
    exact hlo
  · rw [ws_put G μ h2 (by decide) hq2] at hP1 hD1
    exact kk _ t he G p l e s m args below meth cd A cells slots Q F hcs hR H1 locs1 ls o1 (fun v hv => o2 v (List.mem_cons_of_mem _ (List.mem_cons_of_mem _ (List.mem_cons_of_mem _ (List.mem_cons_of_mem _ (List.mem_cons_of_mem _ hv)))))) hP1 hD1 hS1 hl'
end SimComb
