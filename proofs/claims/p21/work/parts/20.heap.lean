/-! ===== the pure part: the memory by names ===== -/
/-- a name: kind, number, place. 0 the component; 1 subject s; 2 list l (0 subjects, 1 numbered, 2+s history, 8+c fields); 3 its row; 4 version s v; 5 schema c; 6 Row r (0, 1 records, 2 trial, 3+c places); 7 its ints; 8 field c j; 9 the reference; 10 its row k; from 11 on: others -/
abbrev nm : Type := Nat × Nat × Nat
abbrev nI2 : Type := nm → Int32
abbrev nN2 : Type := nm → Nat
def up {α : Type} (f : nm → α) (w : nm) (v : α) : nm → α := fun u => if u = w then v else f u
theorem up_s {α : Type} (f : nm → α) (w : nm) (v : α) : up f w v w = v := if_pos rfl
theorem up_n {α : Type} (f : nm → α) {w u : nm} (v : α) (h : u ≠ w) : up f w v u = f u := if_neg h
def el (l j : Nat) : nm := if l = 0 then (1, j, 0) else if l = 1 then (5, j, 0) else if l < 8 then (4, l - 2, j) else (8, l - 8, j)
def ct (k : Nat) : Nat := if k = 5 ∨ k = 10 ∨ k = 15 then 1 else 0
def cn (k : Nat) : Nat := if k ≤ 6 then 185 else if k ≤ 8 then 37 else if k = 10 then 1369 else if k ≤ 12 then 36 else if k ≤ 15 then 6 else if k ≤ 18 then 20 else 40
/-- the cell of a name, out of the ints, the references and the others -/
def cell (ad : nm → Nat) (σ : nI2) (ρ : nN2) (ξ : Nat → zE) (x : nm) : zE := match x.1 with
  | 0 => zO 6 [.ref (ad (2, 0, 0)), .ref (ad (2, 1, 0)), .ref (ad (5, ρ (0, 0, 0), 0)), .ref (ad (6, ρ (1, 0, 0), 0)), .ref (ad (6, ρ (1, 1, 0), 0)), .ref (ad (6, 2, 0))]
  | 1 => zO 4 [.ref (ad (2, 2 + x.2.1, 0)), .int (σ (0, x.2.1, 0)), .int (σ (1, x.2.1, 0))]
  | 2 => zO 0 [.int (σ (6, x.2.1, 0)), .ref (ad (3, x.2.1, 0)), .int (σ (7, x.2.1, 0))]
  | 3 => if ρ (5, x.2.1, 0) = 0 then zN else zA (ρ (5, x.2.1, 0)) (fun j => if ρ (4, x.2.1, j) = 0 then none else some (ad (el x.2.1 j)))
  | 4 => zO 5 [.ref (ad (5, ρ (2, x.2.1, x.2.2), 0)), .int (σ (2, x.2.1, x.2.2))]
  | 5 => zO 3 [.ref (ad (2, 8 + x.2.1, 0)), .ref (ad (6, 3 + x.2.1, 0)), .int (σ (3, x.2.1, 0))]
  | 6 => zO 2 [.ref (ad (7, x.2.1, 0)), .int (σ (4, x.2.1, 0))]
  | 7 => zI 0 20 (fun j => σ (5, x.2.1, j))
  | 8 => zO 1 [.int (σ (8, x.2.1, x.2.2)), .int (σ (9, x.2.1, x.2.2)), .int (σ (10, x.2.1, x.2.2)), .int (σ (11, x.2.1, x.2.2)), .int (σ (12, x.2.1, x.2.2)), va_rf (if ρ (3, x.2.1, x.2.2) = 0 then none else some (ad (5, ρ (3, x.2.1, x.2.2) - 1, 0))), .int (σ (13, x.2.1, x.2.2)), .int (σ (14, x.2.1, x.2.2)), .int (σ (15, x.2.1, x.2.2))]
  | 9 => zO 7 [.int (σ (16, 0, 0)), .ref (ad (10, 1, 0)), .ref (ad (10, 2, 0)), .ref (ad (10, 3, 0)), .ref (ad (10, 4, 0)), .ref (ad (10, 5, 0)), .ref (ad (10, 6, 0)), .ref (ad (10, 7, 0)), .ref (ad (10, 8, 0)), .int (σ (16, 9, 0)), .ref (ad (10, 10, 0)), .ref (ad (10, 11, 0)), .ref (ad (10, 12, 0)), .ref (ad (10, 13, 0)), .ref (ad (10, 14, 0)), .ref (ad (10, 15, 0)), .int (σ (16, 16, 0)), .ref (ad (10, 17, 0)), .ref (ad (10, 18, 0)), .ref (ad (10, 19, 0)), .ref (ad (10, 20, 0)), .ref (ad (10, 21, 0)), .ref (ad (10, 22, 0))]
  | 10 => zI (ct x.2.1) (cn x.2.1) (fun j => σ (17, x.2.1, j))
  | k => ξ k
/-- which names a name's cell refers to -/
def refs (ρ : nN2) (x y : nm) : Prop := match x.1 with
  | 0 => y = (2, 0, 0) ∨ y = (2, 1, 0) ∨ y = (5, ρ (0, 0, 0), 0) ∨ y = (6, ρ (1, 0, 0), 0) ∨ y = (6, ρ (1, 1, 0), 0) ∨ y = (6, 2, 0)
  | 1 => y = (2, 2 + x.2.1, 0)
  | 2 => y = (3, x.2.1, 0)
  | 3 => ∃ j, ρ (4, x.2.1, j) ≠ 0 ∧ y = el x.2.1 j
  | 4 => y = (5, ρ (2, x.2.1, x.2.2), 0)
  | 5 => y = (2, 8 + x.2.1, 0) ∨ y = (6, 3 + x.2.1, 0)
  | 6 => y = (7, x.2.1, 0)
  | 8 => ρ (3, x.2.1, x.2.2) ≠ 0 ∧ y = (5, ρ (3, x.2.1, x.2.2) - 1, 0)
  | 9 => ∃ k, (k < 23 ∧ k ≠ 0 ∧ k ≠ 9 ∧ k ≠ 16) ∧ y = (10, k, 0)
  | _ => False
/-- a name as it should be: places only for versions and fields -/
def can (x : nm) : Prop := (x.1 ≠ 4 → x.1 ≠ 8 → x.2.2 = 0) ∧ (x.1 = 0 ∨ x.1 = 9 → x.2.1 = 0)
/-- the memory holds the cells of the names V at the addresses ad, and, apart from them, what Fm holds -/
def zC (Fm : zM) (V : nm → Prop) (ad : nm → Nat) (σ : nI2) (ρ : nN2) (ξ : Nat → zE) (M : zM) : Prop :=
  (∀ x, V x → M (ad x) = some (cell ad σ ρ ξ x)) ∧ ((∀ x y, V x → V y → x ≠ y → ad x = ad y → cell ad σ ρ ξ x = zN) ∧ ∀ q e, Fm q = some e → M q = some e ∧ ∀ x, V x → ad x = q → cell ad σ ρ ξ x = zN) ∧ (∀ x, V x → ∀ y, refs ρ x y → V y) ∧ ∀ x, V x → can x
/-- the cell that holds an int; the cell that holds a reference -/
def hI (w : nm) : nm := match w.1 with
  | 0 => (1, w.2.1, 0)
  | 1 => (1, w.2.1, 0)
  | 2 => (4, w.2)
  | 3 => (5, w.2.1, 0)
  | 4 => (6, w.2.1, 0)
  | 5 => (7, w.2.1, 0)
  | 6 => (2, w.2.1, 0)
  | 7 => (2, w.2.1, 0)
  | 16 => (9, 0, 0)
  | 17 => (10, w.2.1, 0)
  | _ => (8, w.2)
def hN (w : nm) : nm := match w.1 with
  | 0 => (0, 0, 0)
  | 1 => (0, 0, 0)
  | 2 => (4, w.2)
  | 3 => (8, w.2)
  | 4 => (3, w.2.1, 0)
  | _ => (3, w.2.1, 0)
variable {Fm : zM} {V V' : nm → Prop} {ad ad' : nm → Nat} {σ σ' : nI2} {ρ ρ' : nN2} {ξ ξ' : Nat → zE} {M : zM} {x y w : nm}
theorem cell_ad (h : ∀ y, refs ρ x y → ad' y = ad y) : cell ad' σ ρ ξ x = cell ad σ ρ ξ x := by
  obtain ⟨k, i, j⟩ := x
  match k, h with
  | 0, h => simp only [cell]; rw [h (2, 0, 0) (by simp [refs]), h (2, 1, 0) (by simp [refs]), h (5, ρ (0, 0, 0), 0) (by simp [refs]), h (6, ρ (1, 0, 0), 0) (by simp [refs]), h (6, ρ (1, 1, 0), 0) (by simp [refs]), h (6, 2, 0) (by simp [refs])]
  | 1, h => simp only [cell]; rw [h (2, 2 + i, 0) (by simp [refs])]
  | 2, h => simp only [cell]; rw [h (3, i, 0) (by simp [refs])]
  | 3, h =>
    have e : (fun j => if ρ (4, i, j) = 0 then none else some (ad' (el i j))) = (fun j => if ρ (4, i, j) = 0 then none else some (ad (el i j))) := by
      funext j
      by_cases q : ρ (4, i, j) = 0
      · rw [if_pos q, if_pos q]
      · rw [if_neg q, if_neg q, h (el i j) ⟨j, q, rfl⟩]
    simp only [cell]; rw [e]
  | 4, h => simp only [cell]; rw [h (5, ρ (2, i, j), 0) (by simp [refs])]
  | 5, h => simp only [cell]; rw [h (2, 8 + i, 0) (by simp [refs]), h (6, 3 + i, 0) (by simp [refs])]
  | 6, h => simp only [cell]; rw [h (7, i, 0) (by simp [refs])]
  | 7, h => rfl
  | 8, h =>
    simp only [cell]
    by_cases q : ρ (3, i, j) = 0
    · rw [if_pos q, if_pos q]
    · rw [if_neg q, if_neg q, h (5, ρ (3, i, j) - 1, 0) ⟨q, rfl⟩]
  | 9, h =>
    have g : ∀ k, (k < 23 ∧ k ≠ 0 ∧ k ≠ 9 ∧ k ≠ 16) → ad' (10, k, 0) = ad (10, k, 0) := fun k hk => h (10, k, 0) ⟨k, hk, rfl⟩
    simp only [cell]
    rw [g 1 (by omega), g 2 (by omega), g 3 (by omega), g 4 (by omega), g 5 (by omega), g 6 (by omega), g 7 (by omega), g 8 (by omega), g 10 (by omega), g 11 (by omega), g 12 (by omega), g 13 (by omega), g 14 (by omega), g 15 (by omega), g 17 (by omega), g 18 (by omega), g 19 (by omega), g 20 (by omega), g 21 (by omega), g 22 (by omega)]
  | 10, h => rfl
  | k + 11, h => rfl
