/-! ONE LOAD AT y: its part of the volts lost at x between neighbours a, b, and its slopes -/
def gq (a b : Option Rat) (x y : Rat) : Rat := match a, b with
  | some a, some b => if a < y ∧ y < b then (if x ≤ y then (x - a) * (b - y) / (b - a) else (y - a) * (b - x) / (b - a)) else 0
  | some a, none => if a < y then (if x ≤ y then x - a else y - a) else 0
  | none, some b => if y < b then (if x ≤ y then b - y else b - x) else 0
  | none, none => 0
def sR (a b : Option Rat) (x y : Rat) : Rat := match a, b with
  | some a, some b => if a < y ∧ y < b then (if y ≤ x then -(y - a) / (b - a) else (b - y) / (b - a)) else 0
  | some a, none => if a < y then (if y ≤ x then 0 else 1) else 0
  | none, some b => if y < b then (if y ≤ x then -1 else 0) else 0
  | none, none => 0
def sL (a b : Option Rat) (x y : Rat) : Rat := match a, b with
  | some a, some b => if a < y ∧ y < b then (if y < x then -(y - a) / (b - a) else (b - y) / (b - a)) else 0
  | some a, none => if a < y then (if y < x then 0 else 1) else 0
  | none, some b => if y < b then (if y < x then -1 else 0) else 0
  | none, none => 0
theorem slR {a b : Option Rat} {x z y : Rat} (hxz : x < z) (ha : ∀ p, a = some p → p ≤ x) (hb : ∀ q, b = some q → z ≤ q) (hn : a ≠ none ∨ b ≠ none) : (gq a b z y - gq a b x y) / (z - x) + (if x < y ∧ y < z then (z - y) / (z - x) else 0) = sR a b x y := by
  have hz : z - x ≠ 0 := by grind
  cases a with
  | none =>
    cases b with
    | none => simp at hn
    | some b =>
      have hb := hb b rfl
      unfold gq sR
      dsimp only
      by_cases h1 : y < b <;> by_cases h2 : y ≤ x <;> by_cases h3 : y < z <;> grind
  | some a =>
    have ha := ha a rfl
    cases b with
    | none =>
      unfold gq sR
      dsimp only
      by_cases h1 : a < y <;> by_cases h2 : y ≤ x <;> by_cases h3 : y < z <;> grind
    | some b =>
      have hb := hb b rfl
      have hab : b - a ≠ 0 := by grind
      unfold gq sR
      dsimp only
      by_cases h1 : a < y ∧ y < b <;> by_cases h2 : y ≤ x <;> by_cases h3 : y < z <;> grind
theorem slL {a b : Option Rat} {x z y : Rat} (hxz : x < z) (ha : ∀ p, a = some p → p ≤ x) (hb : ∀ q, b = some q → z ≤ q) (hn : a ≠ none ∨ b ≠ none) : (gq a b x y - gq a b z y) / (z - x) + (if x < y ∧ y < z then (y - x) / (z - x) else 0) = -sL a b z y := by
  have hz : z - x ≠ 0 := by grind
  cases a with
  | none =>
    cases b with
    | none => simp at hn
    | some b =>
      have hb := hb b rfl
      unfold gq sL
      dsimp only
      by_cases h1 : y < b <;> by_cases h2 : y ≤ x <;> by_cases h3 : y < z <;> grind
  | some a =>
    have ha := ha a rfl
    cases b with
    | none =>
      unfold gq sL
      dsimp only
      by_cases h1 : a < y <;> by_cases h2 : y ≤ x <;> by_cases h3 : y < z <;> grind
    | some b =>
      have hb := hb b rfl
      have hab : b - a ≠ 0 := by grind
      unfold gq sL
      dsimp only
      by_cases h1 : a < y ∧ y < b <;> by_cases h2 : y ≤ x <;> by_cases h3 : y < z <;> grind
theorem kink {a b : Option Rat} {x y : Rat} (ha : ∀ p, a = some p → p < x) (hb : ∀ q, b = some q → x < q) (hn : a ≠ none ∨ b ≠ none) : sR a b x y - sL a b x y + (if y = x then 1 else 0) = 0 := by
  cases a with
  | none =>
    cases b with
    | none => simp at hn
    | some b =>
      have hb := hb b rfl
      unfold sR sL
      dsimp only
      by_cases h1 : y < b <;> by_cases h2 : y ≤ x <;> by_cases h3 : y < x <;> grind
  | some a =>
    have ha := ha a rfl
    cases b with
    | none =>
      unfold sR sL
      dsimp only
      by_cases h1 : a < y <;> by_cases h2 : y ≤ x <;> by_cases h3 : y < x <;> grind
    | some b =>
      have hb := hb b rfl
      have hab : b - a ≠ 0 := by grind
      unfold sR sL
      dsimp only
      by_cases h1 : a < y ∧ y < b <;> by_cases h2 : y ≤ x <;> by_cases h3 : y < x <;> grind
theorem gq_a {a x y : Rat} {b : Option Rat} (h : x = a) (hb : ∀ q, b = some q → a < q) : gq (some a) b x y = 0 := by
  cases b with
  | none => unfold gq; dsimp only; by_cases h1 : a < y <;> by_cases h2 : x ≤ y <;> grind
  | some b =>
    have hb := hb b rfl
    have hab : b - a ≠ 0 := by grind
    unfold gq; dsimp only; by_cases h1 : a < y ∧ y < b <;> by_cases h2 : x ≤ y <;> grind
theorem gq_b {b x y : Rat} {a : Option Rat} (h : x = b) (ha : ∀ q, a = some q → q < b) : gq a (some b) x y = 0 := by
  cases a with
  | none => unfold gq; dsimp only; by_cases h1 : y < b <;> by_cases h2 : x ≤ y <;> grind
  | some a =>
    have ha := ha a rfl
    have hab : b - a ≠ 0 := by grind
    unfold gq; dsimp only; by_cases h1 : a < y ∧ y < b <;> by_cases h2 : x ≤ y <;> grind
